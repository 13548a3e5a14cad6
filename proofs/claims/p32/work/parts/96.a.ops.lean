/-! The strong invariant with felts, walls and the cache, over every call: printed by wip/gen/strongC.py -/
def Rm (q : Nat) (M : aM) : Prop := a_n M ≤ 137 + 15 * q ∧ a_c M ≤ 1000 + 15 * q ∧ a_z M ≤ 100000 + 169 * q
theorem Rm_e {q : Nat} {M M' : aM} (h : Rm q M) (e : a_n M' = a_n M ∧ a_z M' = a_z M ∧ a_c M' = a_c M) : Rm q M' := by
  obtain ⟨h1, h2, h3⟩ := h
  exact ⟨by rw [e.1]; exact h1, by rw [e.2.2]; exact h2, by rw [e.2.1]; exact h3⟩
/-- the tapes are alike -/
def R1 (M : aM) : Prop := a_I M 2 1 = a_I M 113 6 ∧ ∀ k, a_I M 3 k = a_I M 114 k
/-- the shops are alike -/
def R2 (b : Bool) (M : aM) : Prop := (a_I M 0 8 = 0 ∧ a_P M 113 3 = none) ∨ (a_I M 0 8 = 1 ∧ ∃ u, a_P M 113 3 = some u ∧ a_I M (cur b) 0 = a_I M u 0 ∧ a_I M (cur b) 1 = a_I M u 1 ∧ a_I M (cur b) 2 = a_I M u 2)
def R3 (M : aM) : Prop := a_I M 0 10 = a_I M 113 13
def Wh (M : aM) : Prop := (if a_I M 0 9 = 4 then a_I M 0 11 else -1) = a_I M 113 2
/-- as many felt -/
def R5 (M : aM) : Prop := a_I M 52 4 = a_I M 113 28
/-- the walls told are alike -/
def R6 (M : aM) : Prop := (∀ k, k < 30 → a_I M 96 k = a_I M 135 k ∧ (a_I M 96 k = 0 ∨ (a_I M 96 k = 1 ∧ a_I M 97 k = a_I M 131 k ∧ a_I M 98 k = a_I M 132 k ∧ -999 ≤ (a_I M 131 k).toInt ∧ (a_I M 131 k).toInt ≤ (a_I M 132 k).toInt ∧ (a_I M 132 k).toInt ≤ 999))) ∧ (a_I M 113 37).toInt = (cnt M 30 : Int)
def sd0 (M : aM) (w : Int32) : spA := (fun j => if a_I M 96 j = 0 then -w else a_I M 97 j, fun j => if a_I M 96 j = 0 then w else a_I M 98 j)
def mSp (M : aM) : spA := (a_I M 99, a_I M 100)
/-- the spans that the class keeps -/
def R7 (b : Bool) (M : aM) : Prop := a_I M 95 5 = -1 ∨ ∃ n F, (a_I M (cur b) 0).toInt = ((n : Nat) : Int) ∧ (∀ F', F ≤ F' → spn (a_I M 95 5) n F' (sd0 M (a_I M (cur b) 1)) = spn (a_I M 95 5) n F (sd0 M (a_I M (cur b) 1))) ∧ (((spn (a_I M 95 5) n F (sd0 M (a_I M (cur b) 1))).2 = true ∧ a_I M 95 6 = 1 ∧ AG n (mSp M) (spn (a_I M 95 5) n F (sd0 M (a_I M (cur b) 1))).1) ∨ ((spn (a_I M 95 5) n F (sd0 M (a_I M (cur b) 1))).2 = false ∧ a_I M 95 6 = 0))
def RnA (b : Bool) (M : aM) : Prop := R1 M ∧ R2 b M ∧ R3 M
def Rn (b : Bool) (M : aM) : Prop := RnA b M ∧ R5 M ∧ R6 M ∧ R7 b M
def LZ (q : Nat) (M : aM) : Prop := ∃ b rg, LB b rg M ∧ JM rg M ∧ Rm q M ∧ Rn b M ∧ Wh M
def LY (q : Nat) (M : aM) : Prop := ∃ b rg, LB b rg M ∧ JM rg M ∧ Rm q M ∧ Rn b M ∧ a_I M 0 9 ≠ 4
def nL (P L : List (Nat × Nat)) : Bool := P.all (fun q => !msL L q.1 q.2)
def P1 : List (Nat × Nat) := [(9, 1), (13, 6), (470, 0), (675, 0)]
def P2 : List (Nat × Nat) := [(11, 8), (13, 3), (8, 0), (8, 1), (8, 2), (12, 0), (12, 1), (12, 2)]
def P3 : List (Nat × Nat) := [(11, 10), (13, 13)]
def PW : List (Nat × Nat) := [(11, 9), (11, 11), (13, 2)]
theorem nL_at {P L : List (Nat × Nat)} (h : nL P L = true) {r k : Nat} (hm : (r, k) ∈ P) : msL L r k = false := bnot (List.all_eq_true.mp h (r, k) hm)
theorem R1_fr {b : Bool} {rg : Nat → Nat} {M M' : aM} {L : List (Nat × Nat)} (hL : LB b rg M) (hF : Fr RR (msL L) rg M M') (p : nL P1 L = true) (h : R1 M) : R1 M' := by
  refine ⟨?_, fun k => ?_⟩
  · rw [Fr_I hF (rg_at hL (a := 2) (by omega) (fun b => by cases b <;> rfl)) (show msL L 9 1 = false from nL_at p (by decide)), Fr_I hF (rg_at hL (a := 113) (by omega) (fun b => by cases b <;> rfl)) (show msL L 13 6 = false from nL_at p (by decide))]
    exact h.1
  · rw [Fr_I hF (rg_at hL (a := 3) (by omega) (fun b => by cases b <;> rfl)) (show msL L 470 0 = false from nL_at p (by decide)), Fr_I hF (rg_at hL (a := 114) (by omega) (fun b => by cases b <;> rfl)) (show msL L 675 0 = false from nL_at p (by decide))]
    exact h.2 k
theorem cur_rg {b : Bool} {rg : Nat → Nat} {M : aM} (hL : LB b rg M) : rg (cur b) = 8 := by
  rw [hL.2.1 (cur b) (by cases b <;> decide)]
  cases b <;> rfl
theorem R2_fr {b : Bool} {rg : Nat → Nat} {M M' : aM} {L : List (Nat × Nat)} (hL : LB b rg M) (hJ : JM rg M) (hF : Fr RR (msL L) rg M M') (p : nL P2 L = true) (h : R2 b M) : R2 b M' := by
  have e8 : a_I M' 0 8 = a_I M 0 8 := Fr_I hF (rg_at hL (a := 0) (by omega) (fun b => by cases b <;> rfl)) (show msL L 11 8 = false from nL_at p (by decide))
  have e3 : a_P M' 113 3 = a_P M 113 3 := Fr_P hF (rg_at hL (a := 113) (by omega) (fun b => by cases b <;> rfl)) (show msL L 13 3 = false from nL_at p (by decide))
  have hc := cur_rg hL
  have c0 : a_I M' (cur b) 0 = a_I M (cur b) 0 := Fr_I hF hc (show msL L 8 0 = false from nL_at p (by decide))
  have c1 : a_I M' (cur b) 1 = a_I M (cur b) 1 := Fr_I hF hc (show msL L 8 1 = false from nL_at p (by decide))
  have c2 : a_I M' (cur b) 2 = a_I M (cur b) 2 := Fr_I hF hc (show msL L 8 2 = false from nL_at p (by decide))
  unfold R2
  rw [e8, e3, c0, c1, c2]
  rcases h with h | ⟨h1, u, h2, h3, h4, h5⟩
  · exact Or.inl h
  · have hu := (JM_u hJ h2).2.1
    refine Or.inr ⟨h1, u, h2, ?_, ?_, ?_⟩
    · rw [Fr_I hF hu (show msL L 12 0 = false from nL_at p (by decide))]; exact h3
    · rw [Fr_I hF hu (show msL L 12 1 = false from nL_at p (by decide))]; exact h4
    · rw [Fr_I hF hu (show msL L 12 2 = false from nL_at p (by decide))]; exact h5
theorem R3_fr {b : Bool} {rg : Nat → Nat} {M M' : aM} {L : List (Nat × Nat)} (hL : LB b rg M) (hF : Fr RR (msL L) rg M M') (p : nL P3 L = true) (h : R3 M) : R3 M' := by
  unfold R3
  rw [Fr_I hF (rg_at hL (a := 0) (by omega) (fun b => by cases b <;> rfl)) (show msL L 11 10 = false from nL_at p (by decide)), Fr_I hF (rg_at hL (a := 113) (by omega) (fun b => by cases b <;> rfl)) (show msL L 13 13 = false from nL_at p (by decide))]
  exact h
def P5 : List (Nat × Nat) := [(4, 4), (13, 28)]
def P6 : List (Nat × Nat) := [(520, 0), (521, 0), (522, 0), (708, 0), (709, 0), (712, 0), (13, 37)]
def P7 : List (Nat × Nat) := [(10, 5), (10, 6), (520, 0), (521, 0), (522, 0), (523, 0), (524, 0), (8, 0), (8, 1)]
theorem R5_fr {b : Bool} {rg : Nat → Nat} {M M' : aM} {L : List (Nat × Nat)} (hL : LB b rg M) (hF : Fr RR (msL L) rg M M') (p : nL P5 L = true) (h : R5 M) : R5 M' := by
  unfold R5
  rw [Fr_I hF (rg_at hL (a := 52) (by omega) (fun b => by cases b <;> rfl)) (show msL L 4 4 = false from nL_at p (by decide)), Fr_I hF (rg_at hL (a := 113) (by omega) (fun b => by cases b <;> rfl)) (show msL L 13 28 = false from nL_at p (by decide))]
  exact h
theorem cnt_e {M M' : aM} (h : ∀ k, k < 30 → a_I M' 96 k = a_I M 96 k) : ∀ {n : Nat}, n ≤ 30 → cnt M' n = cnt M n
  | 0, _ => rfl
  | n + 1, hn => by
    unfold cnt
    rw [cnt_e h (by omega), h n (by omega)]
theorem R6_i {M M' : aM} (h1 : ∀ a k, a = 96 ∨ a = 97 ∨ a = 98 ∨ a = 131 ∨ a = 132 ∨ a = 135 → a_I M' a k = a_I M a k) (h2 : a_I M' 113 37 = a_I M 113 37) (h : R6 M) : R6 M' := by
  refine ⟨fun k hk => ?_, ?_⟩
  · rw [h1 96 k (by omega), h1 97 k (by omega), h1 98 k (by omega), h1 131 k (by omega), h1 132 k (by omega), h1 135 k (by omega)]
    exact h.1 k hk
  · rw [h2, cnt_e (fun k _ => h1 96 k (by omega)) (Nat.le_refl _)]
    exact h.2
theorem R7_i {b : Bool} {M M' : aM} (h1 : ∀ a k, a = 96 ∨ a = 97 ∨ a = 98 ∨ a = 99 ∨ a = 100 → a_I M' a k = a_I M a k) (h5 : a_I M' 95 5 = a_I M 95 5) (h6 : a_I M' 95 6 = a_I M 95 6) (hc : ∀ k, k < 2 → a_I M' (cur b) k = a_I M (cur b) k) (h : R7 b M) : R7 b M' := by
  have e1 : sd0 M' = sd0 M := funext fun w => by
    unfold sd0
    rw [show a_I M' 96 = a_I M 96 from funext fun k => h1 96 k (by omega), show a_I M' 97 = a_I M 97 from funext fun k => h1 97 k (by omega), show a_I M' 98 = a_I M 98 from funext fun k => h1 98 k (by omega)]
  have e2 : mSp M' = mSp M := by
    unfold mSp
    rw [show a_I M' 99 = a_I M 99 from funext fun k => h1 99 k (by omega), show a_I M' 100 = a_I M 100 from funext fun k => h1 100 k (by omega)]
  unfold R7
  rw [h5, h6, hc 0 (by omega), hc 1 (by omega), e1, e2]
  exact h
theorem R6_fr {b : Bool} {rg : Nat → Nat} {M M' : aM} {L : List (Nat × Nat)} (hL : LB b rg M) (hF : Fr RR (msL L) rg M M') (p : nL P6 L = true) (h : R6 M) : R6 M' := by
  refine R6_i (fun a k e => ?_) (Fr_I hF (rg_at hL (a := 113) (by omega) (fun b => by cases b <;> rfl)) (show msL L 13 37 = false from nL_at p (by decide))) h
  rcases e with rfl | rfl | rfl | rfl | rfl | rfl
  · exact Fr_I hF (rg_at hL (a := 96) (by omega) (fun b => by cases b <;> rfl)) (show msL L 520 0 = false from nL_at p (by decide))
  · exact Fr_I hF (rg_at hL (a := 97) (by omega) (fun b => by cases b <;> rfl)) (show msL L 521 0 = false from nL_at p (by decide))
  · exact Fr_I hF (rg_at hL (a := 98) (by omega) (fun b => by cases b <;> rfl)) (show msL L 522 0 = false from nL_at p (by decide))
  · exact Fr_I hF (rg_at hL (a := 131) (by omega) (fun b => by cases b <;> rfl)) (show msL L 708 0 = false from nL_at p (by decide))
  · exact Fr_I hF (rg_at hL (a := 132) (by omega) (fun b => by cases b <;> rfl)) (show msL L 709 0 = false from nL_at p (by decide))
  · exact Fr_I hF (rg_at hL (a := 135) (by omega) (fun b => by cases b <;> rfl)) (show msL L 712 0 = false from nL_at p (by decide))
theorem R7_fr {b : Bool} {rg : Nat → Nat} {M M' : aM} {L : List (Nat × Nat)} (hL : LB b rg M) (hF : Fr RR (msL L) rg M M') (p : nL P7 L = true) (h : R7 b M) : R7 b M' := by
  refine R7_i (fun a k e => ?_) (Fr_I hF (rg_at hL (a := 95) (by omega) (fun b => by cases b <;> rfl)) (show msL L 10 5 = false from nL_at p (by decide))) (Fr_I hF (rg_at hL (a := 95) (by omega) (fun b => by cases b <;> rfl)) (show msL L 10 6 = false from nL_at p (by decide))) (fun k hk => ?_) h
  · rcases e with rfl | rfl | rfl | rfl | rfl
    · exact Fr_I hF (rg_at hL (a := 96) (by omega) (fun b => by cases b <;> rfl)) (show msL L 520 0 = false from nL_at p (by decide))
    · exact Fr_I hF (rg_at hL (a := 97) (by omega) (fun b => by cases b <;> rfl)) (show msL L 521 0 = false from nL_at p (by decide))
    · exact Fr_I hF (rg_at hL (a := 98) (by omega) (fun b => by cases b <;> rfl)) (show msL L 522 0 = false from nL_at p (by decide))
    · exact Fr_I hF (rg_at hL (a := 99) (by omega) (fun b => by cases b <;> rfl)) (show msL L 523 0 = false from nL_at p (by decide))
    · exact Fr_I hF (rg_at hL (a := 100) (by omega) (fun b => by cases b <;> rfl)) (show msL L 524 0 = false from nL_at p (by decide))
  · rcases (show k = 0 ∨ k = 1 by omega) with rfl | rfl
    · exact Fr_I hF (cur_rg hL) (show msL L 8 0 = false from nL_at p (by decide))
    · exact Fr_I hF (cur_rg hL) (show msL L 8 1 = false from nL_at p (by decide))
def nA (L : List (Nat × Nat)) : Bool := nL P1 L && (nL P2 L && nL P3 L)
def nR (L : List (Nat × Nat)) : Bool := nA L && (nL P5 L && (nL P6 L && nL P7 L))
theorem RnA_fr {b : Bool} {rg : Nat → Nat} {M M' : aM} {L : List (Nat × Nat)} (hL : LB b rg M) (hJ : JM rg M) (hF : Fr RR (msL L) rg M M') (p : nA L = true) (h : RnA b M) : RnA b M' := by
  obtain ⟨p1, p2⟩ := (Bool.and_eq_true _ _).mp p
  obtain ⟨p3, p4⟩ := (Bool.and_eq_true _ _).mp p2
  exact ⟨R1_fr hL hF p1 h.1, R2_fr hL hJ hF p3 h.2.1, R3_fr hL hF p4 h.2.2⟩
theorem Rn_fr {b : Bool} {rg : Nat → Nat} {M M' : aM} {L : List (Nat × Nat)} (hL : LB b rg M) (hJ : JM rg M) (hF : Fr RR (msL L) rg M M') (p : nR L = true) (h : Rn b M) : Rn b M' := by
  obtain ⟨p1, p2⟩ := (Bool.and_eq_true _ _).mp p
  obtain ⟨p3, p4⟩ := (Bool.and_eq_true _ _).mp p2
  obtain ⟨p5, p6⟩ := (Bool.and_eq_true _ _).mp p4
  exact ⟨RnA_fr hL hJ hF p1 h.1, R5_fr hL hF p3 h.2.1, R6_fr hL hF p5 h.2.2.1, R7_fr hL hF p6 h.2.2.2⟩
theorem Wh_fr {b : Bool} {rg : Nat → Nat} {M M' : aM} {L : List (Nat × Nat)} (hL : LB b rg M) (hF : Fr RR (msL L) rg M M') (p : nL PW L = true) (h : Wh M) : Wh M' := by
  unfold Wh
  rw [Fr_I hF (rg_at hL (a := 0) (by omega) (fun b => by cases b <;> rfl)) (show msL L 11 9 = false from nL_at p (by decide)), Fr_I hF (rg_at hL (a := 0) (by omega) (fun b => by cases b <;> rfl)) (show msL L 11 11 = false from nL_at p (by decide)), Fr_I hF (rg_at hL (a := 113) (by omega) (fun b => by cases b <;> rfl)) (show msL L 13 2 = false from nL_at p (by decide))]
  exact h
/-- every end of the class's tells a trouble that is not 4 -/
def sX (c : yC) : Bool := c.2.1.all (fun a => a.2.any (fun q => (Nat.beq q.1.1 11 && Nat.beq q.1.2 9) && (match q.2 with
  | .inl w => decide (w.2 < 4) || decide (4 < w.1)
  | .inr _ => false)))
def sM (c : yC) : Bool := c.2.1.all (fun a => a.2.any (fun q => (Nat.beq q.1.1 13 && Nat.beq q.1.2 2) && (match q.2 with
  | .inl w => decide (w.1 = -1) && decide (w.2 = -1)
  | .inr _ => false)))
theorem sX_ok {b : Bool} {rg : Nat → Nat} {M M' : aM} {ρ : List Int} {c : yC} {r : Option aV} (hL : LB b rg M) (hs : sX c = true) (h : cQ RR rg M ρ c r M') : a_I M' 0 9 ≠ 4 := by
  obtain ⟨_, hF, a, ha, hp⟩ := h
  have h1 := List.all_eq_true.mp hs a ha
  obtain ⟨q, q1, q2⟩ := List.any_eq_true.mp h1
  obtain ⟨q3, q4⟩ := (Bool.and_eq_true _ _).mp q2
  obtain ⟨q5, q6⟩ := (Bool.and_eq_true _ _).mp q3
  have hv := hp.2 q q1 0 (by rw [hF.1.1]; exact lo_n hL (by decide)) ((rg_at hL (by decide) (fun b => by cases b <;> rfl)).trans (nbT q5).symm)
  rw [nbT q6] at hv
  intro e
  rw [e] at hv
  rcases hq : q.2 with w | w
  · rw [hq] at q4 hv
    have hv : w.1 ≤ (4 : Int32).toInt ∧ (4 : Int32).toInt ≤ w.2 := hv
    have h4 : (4 : Int32).toInt = 4 := rfl
    rcases (Bool.or_eq_true _ _).mp q4 with z | z
    · have := of_decide_eq_true z; omega
    · have := of_decide_eq_true z; omega
  · rw [hq] at q4; cases q4
theorem sM_ok {b : Bool} {rg : Nat → Nat} {M M' : aM} {ρ : List Int} {c : yC} {r : Option aV} (hL : LB b rg M) (hs : sM c = true) (h : cQ RR rg M ρ c r M') : a_I M' 113 2 = -1 := by
  obtain ⟨_, hF, a, ha, hp⟩ := h
  have h1 := List.all_eq_true.mp hs a ha
  obtain ⟨q, q1, q2⟩ := List.any_eq_true.mp h1
  obtain ⟨q3, q4⟩ := (Bool.and_eq_true _ _).mp q2
  obtain ⟨q5, q6⟩ := (Bool.and_eq_true _ _).mp q3
  have hv := hp.2 q q1 113 (by rw [hF.1.1]; exact lo_n hL (by decide)) ((rg_at hL (by decide) (fun b => by cases b <;> rfl)).trans (nbT q5).symm)
  rw [nbT q6] at hv
  rcases hq : q.2 with w | w
  · rw [hq] at q4 hv
    have hv : w.1 ≤ (a_I M' 113 2).toInt ∧ (a_I M' 113 2).toInt ≤ w.2 := hv
    obtain ⟨z1, z2⟩ := (Bool.and_eq_true _ _).mp q4
    have z1 := of_decide_eq_true z1
    have z2 := of_decide_eq_true z2
    exact Int32.toInt_inj.mp (by rw [show (-1 : Int32).toInt = -1 from rfl]; omega)
  · rw [hq] at q4; cases q4
theorem Wh_set {M : aM} (h1 : a_I M 0 9 ≠ 4) (h2 : a_I M 113 2 = -1) : Wh M := by
  unfold Wh
  rw [if_neg h1, h2]
def cInt (c : yC) : Bool := c.2.1.all (fun a => a.1.isSome)
theorem cQ_i {rg : Nat → Nat} {M M' : aM} {ρ : List Int} {c : yC} {r : Option aV} (hc : cInt c = true) (h : cQ RR rg M ρ c r M') : ∃ x, r = some (.inl x) := by
  obtain ⟨_, _, a, ha, hp⟩ := h
  have h1 := List.all_eq_true.mp hc a ha
  have hp := hp.1
  rcases a with ⟨a1, a2⟩
  rcases a1 with _ | a1
  · cases h1
  · rcases r with _ | (x | x)
    · exact (show False from hp).elim
    · exact ⟨x, rfl⟩
    · exact (show False from hp).elim
theorem LY_x {q : Nat} {b : Bool} {rg : Nat → Nat} {M M' : aM} {ρ : List Int} {c : yC} {r : Option aV} (hL : LB b rg M) (hJ : JM rg M) (hr : Rm q M) (hR : Rn b M) (h : cQ RR rg M ρ c r M') (p1 : ∀ b, protB b c.2.2.1 = true) (p2 : protJ c.2.2.1 = true) (p3 : nR c.2.2.1 = true) (p4 : sX c = true) : LY q M' := ⟨b, rg, LB_fr hL h.1 h.2.1 (p1 b), JM_fr hL hJ h.2.1 p2, Rm_e hr h.2.1.1, Rn_fr hL hJ h.2.1 p3 hR, sX_ok hL p4 h⟩
theorem LZ_k {q : Nat} {b : Bool} {rg : Nat → Nat} {M M' : aM} {L : List (Nat × Nat)} (hL : LB b rg M) (hJ : JM rg M) (hr : Rm q M) (hR : Rn b M) (hW : Wh M) (hT9 : hT RR rg M') (hF : Fr RR (msL L) rg M M') (p1 : ∀ b, protB b L = true) (p2 : protJ L = true) (p3 : nR L = true) (p4 : nL PW L = true) : LZ q M' := ⟨b, rg, LB_fr hL hT9 hF (p1 b), JM_fr hL hJ hF p2, Rm_e hr hF.1, Rn_fr hL hJ hF p3 hR, Wh_fr hL hF p4 hW⟩
theorem LZ_m {q : Nat} {b : Bool} {rg : Nat → Nat} {M M' : aM} {L : List (Nat × Nat)} (hL : LB b rg M) (hJ : JM rg M) (hJ' : JM rg M') (hr : Rm q M) (hR : Rn b M) (h9 : a_I M 0 9 ≠ 4) (hT9 : hT RR rg M') (hF : Fr RR (msL L) rg M M') (p1 : ∀ b, protB b L = true) (p3 : nR L = true) (p4 : (!msL L 11 9) = true) (h2 : a_I M' 113 2 = -1) : LZ q M' := ⟨b, rg, LB_fr hL hT9 hF (p1 b), hJ', Rm_e hr hF.1, Rn_fr hL hJ hF p3 hR, Wh_set (by rw [Fr_I hF (rg_at hL (a := 0) (by omega) (fun b => by cases b <;> rfl)) (show msL L 11 9 = false from bnot p4)]; exact h9) h2⟩
theorem JM_dn {b : Bool} {rg : Nat → Nat} {M M' : aM} {L : List (Nat × Nat)} (hL : LB b rg M) (hJ : JM rg M) (hF : Fr RR (msL L) rg M M') (hp : (!msL L 13 3 && (!msL L 12 0 && (!msL L 12 12 && !msL L 643 0))) = true) {u : Nat} (hu : a_P M 113 3 = some u) (hd : 0 ≤ dnM M' ∧ dnM M' ≤ 30) (hd2 : dnM M' ≤ (a_I M u 0).toInt) (hb : (a_I M' 113 31).toInt ≤ 0) : JM rg M' := by
  obtain ⟨p1, p2⟩ := (Bool.and_eq_true _ _).mp hp
  obtain ⟨p3, p4⟩ := (Bool.and_eq_true _ _).mp p2
  obtain ⟨p5, p6⟩ := (Bool.and_eq_true _ _).mp p4
  refine ⟨hd, Or.inr ⟨u, ?_, ?_⟩, fun k hk => ?_⟩
  · rw [Fr_P hF (rg_at hL (a := 113) (by omega) (fun b => by cases b <;> rfl)) (show msL L 13 3 = false from bnot p1)]; exact hu
  · exact JS_fr (b := b) hF (JM_u hJ hu) hd2 (bnot p3) (bnot p5) (bnot p6)
  · omega
theorem vl_dr {v : Int} (h1 : 2 ≤ v) (h2 : v ≤ 30) : v ∈ vl_Mdrill := by
  have : ∀ n : Fin 29, ((n.1 : Int) + 2) ∈ vl_Mdrill := by decide +kernel
  have := this ⟨(v - 2).toNat, by omega⟩
  simp only at this
  rw [show (((v - 2).toNat : Nat) : Int) + 2 = v by omega] at this
  exact this
theorem vl_fw {v : Int} (h1 : 4 ≤ v) (h2 : v ≤ 30) : v ∈ vl_Mfewest := by
  have : ∀ n : Fin 27, ((n.1 : Int) + 4) ∈ vl_Mfewest := by decide +kernel
  have := this ⟨(v - 4).toNat, by omega⟩
  simp only at this
  rw [show (((v - 4).toNat : Nat) : Int) + 4 = v by omega] at this
  exact this
theorem wpS_and {cd : Nat → Nat → Option aI} {d mid pc : Nat} {lo : aL} {st : List aV} {M : aM} {Q1 Q2 : aQ} (h1 : wpS cd (d, [], mid, pc, lo, st, M) Q1) (h2 : wpS cd (d, [], mid, pc, lo, st, M) Q2) : wpS cd (d, [], mid, pc, lo, st, M) (fun r M' => Q1 r M' ∧ Q2 r M') := by
  obtain ⟨f1, r1, M1, e1, q1⟩ := h1
  obtain ⟨f2, r2, M2, e2, q2⟩ := h2
  have a1 := exec_le (Nat.le_max_left f1 f2) e1
  have a2 := exec_le (Nat.le_max_right f1 f2) e2
  rw [a1] at a2
  cases a2
  exact ⟨max f1 f2, r1, M1, a1, q1, q2⟩
theorem xw_rod {cd : Nat → Nat → Option aI} {z : Bool} (hz : ∀ m p i, cd0 z m p = some i → cd m p = some i) {q : Nat} {M : aM} (hI : LZ q M) (x1 : Int32) (h1 : 0 ≤ x1.toInt ∧ x1.toInt ≤ 1) : wpS cd (39, [], 108, 0, la 0 [.inr (.inr (some 0)), .inl x1], [], M) (fun r M' => ∃ x, r = some (.inl x) ∧ LY q M') := by
  have hct := hc_of hz
  obtain ⟨b, rg, hL, hJ, hr, hR, hW⟩ := hI
  exact wpS_mono (oXrod hct hL x1 h1 (d := 39) (by omega)) (fun r M' h => ⟨_, (cQ_i rfl h).choose_spec, LY_x hL hJ hr hR h oXrod_p oXrod_j (by decide) (by decide)⟩)
theorem xw_drill {cd : Nat → Nat → Option aI} {z : Bool} (hz : ∀ m p i, cd0 z m p = some i → cd m p = some i) {q : Nat} {M : aM} (hI : LZ q M) (x1 : Int32) : wpS cd (39, [], 109, 0, la 0 [.inr (.inr (some 0)), .inl x1], [], M) (fun r M' => ∃ x, r = some (.inl x) ∧ LY q M') := by
  have hct := hc_of hz
  obtain ⟨b, rg, hL, hJ, hr, hR, hW⟩ := hI
  exact wpS_mono (oXdrill hct hL x1 (d := 39) (by omega)) (fun r M' h => ⟨_, (cQ_i rfl h).choose_spec, LY_x hL hJ hr hR h oXdrill_p oXdrill_j (by decide) (by decide)⟩)
theorem xw_inch {cd : Nat → Nat → Option aI} {z : Bool} (hz : ∀ m p i, cd0 z m p = some i → cd m p = some i) {q : Nat} {M : aM} (hI : LZ q M) (x1 : Int32) (x2 : Int32) : wpS cd (39, [], 110, 0, la 0 [.inr (.inr (some 0)), .inl x1, .inl x2], [], M) (fun r M' => ∃ x, r = some (.inl x) ∧ LY q M') := by
  have hct := hc_of hz
  obtain ⟨b, rg, hL, hJ, hr, hR, hW⟩ := hI
  exact wpS_mono (oXinch hct hL x1 x2 (d := 39) (by omega)) (fun r M' h => ⟨_, (cQ_i rfl h).choose_spec, LY_x hL hJ hr hR h oXinch_p oXinch_j (by decide) (by decide)⟩)
theorem xw_odds {cd : Nat → Nat → Option aI} {z : Bool} (hz : ∀ m p i, cd0 z m p = some i → cd m p = some i) {q : Nat} {M : aM} (hI : LZ q M) (x1 : Int32) (x2 : Int32) : wpS cd (39, [], 112, 0, la 0 [.inr (.inr (some 0)), .inl x1, .inl x2], [], M) (fun r M' => ∃ x, r = some (.inl x) ∧ LY q M') := by
  have hct := hc_of hz
  obtain ⟨b, rg, hL, hJ, hr, hR, hW⟩ := hI
  exact wpS_mono (oXodds hct hL x1 x2 (d := 39) (by omega)) (fun r M' h => ⟨_, (cQ_i rfl h).choose_spec, LY_x hL hJ hr hR h oXodds_p oXodds_j (by decide) (by decide)⟩)
theorem xw_rows {cd : Nat → Nat → Option aI} {z : Bool} (hz : ∀ m p i, cd0 z m p = some i → cd m p = some i) {q : Nat} {M : aM} (hI : LZ q M) (x1 : Int32) : wpS cd (39, [], 113, 0, la 0 [.inr (.inr (some 0)), .inl x1], [], M) (fun r M' => ∃ x, r = some (.inl x) ∧ LY q M') := by
  have hct := hc_of hz
  obtain ⟨b, rg, hL, hJ, hr, hR, hW⟩ := hI
  exact wpS_mono (oXrows hct hL x1 (d := 39) (by omega)) (fun r M' h => ⟨_, (cQ_i rfl h).choose_spec, LY_x hL hJ hr hR h oXrows_p oXrows_j (by decide) (by decide)⟩)
theorem xw_cheapest {cd : Nat → Nat → Option aI} {z : Bool} (hz : ∀ m p i, cd0 z m p = some i → cd m p = some i) {q : Nat} {M : aM} (hI : LZ q M) (x1 : Int32) (x2 : Int32) : wpS cd (39, [], 114, 0, la 0 [.inr (.inr (some 0)), .inl x1, .inl x2], [], M) (fun r M' => ∃ x, r = some (.inl x) ∧ LY q M') := by
  have hct := hc_of hz
  obtain ⟨b, rg, hL, hJ, hr, hR, hW⟩ := hI
  exact wpS_mono (oXcheapest hct hL x1 x2 (d := 39) (by omega)) (fun r M' h => ⟨_, (cQ_i rfl h).choose_spec, LY_x hL hJ hr hR h oXcheapest_p oXcheapest_j (by decide) (by decide)⟩)
theorem xw_feedAt {cd : Nat → Nat → Option aI} {z : Bool} (hz : ∀ m p i, cd0 z m p = some i → cd m p = some i) {q : Nat} {M : aM} (hI : LZ q M) (x1 : Int32) : wpS cd (39, [], 115, 0, la 0 [.inr (.inr (some 0)), .inl x1], [], M) (fun r M' => ∃ x, r = some (.inl x) ∧ LZ q M') := by
  have hct := hc_of hz
  obtain ⟨b, rg, hL, hJ, hr, hR, hW⟩ := hI
  exact wpS_mono (oXfeedAt hct hL x1 (d := 39) (by omega)) (fun r M' h => ⟨_, (cQ_i rfl h).choose_spec, LZ_k hL hJ hr hR hW h.1 h.2.1 oXfeedAt_p oXfeedAt_j (by decide) (by decide)⟩)
theorem xw_met {cd : Nat → Nat → Option aI} {z : Bool} (hz : ∀ m p i, cd0 z m p = some i → cd m p = some i) {q : Nat} {M : aM} (hI : LZ q M) (x1 : Int32) : wpS cd (39, [], 116, 0, la 0 [.inr (.inr (some 0)), .inl x1], [], M) (fun r M' => ∃ x, r = some (.inl x) ∧ LY q M') := by
  have hct := hc_of hz
  obtain ⟨b, rg, hL, hJ, hr, hR, hW⟩ := hI
  exact wpS_mono (oXmet hct hL x1 (d := 39) (by omega)) (fun r M' h => ⟨_, (cQ_i rfl h).choose_spec, LY_x hL hJ hr hR h oXmet_p oXmet_j (by decide) (by decide)⟩)
theorem xw_meet {cd : Nat → Nat → Option aI} {z : Bool} (hz : ∀ m p i, cd0 z m p = some i → cd m p = some i) {q : Nat} {M : aM} (hI : LZ q M) : wpS cd (39, [], 117, 0, la 0 [.inr (.inr (some 0))], [], M) (fun r M' => ∃ x, r = some (.inl x) ∧ LY q M') := by
  have hct := hc_of hz
  obtain ⟨b, rg, hL, hJ, hr, hR, hW⟩ := hI
  exact wpS_mono (oXmeet hct hL (d := 39) (by omega)) (fun r M' h => ⟨_, (cQ_i rfl h).choose_spec, LY_x hL hJ hr hR h oXmeet_p oXmeet_j (by decide) (by decide)⟩)
theorem xw_causes {cd : Nat → Nat → Option aI} {z : Bool} (hz : ∀ m p i, cd0 z m p = some i → cd m p = some i) {q : Nat} {M : aM} (hI : LZ q M) : wpS cd (39, [], 120, 0, la 0 [.inr (.inr (some 0))], [], M) (fun r M' => ∃ x, r = some (.inl x) ∧ LY q M') := by
  have hct := hc_of hz
  obtain ⟨b, rg, hL, hJ, hr, hR, hW⟩ := hI
  exact wpS_mono (oXcauses hct hL (d := 39) (by omega)) (fun r M' h => ⟨_, (cQ_i rfl h).choose_spec, LY_x hL hJ hr hR h oXcauses_p oXcauses_j (by decide) (by decide)⟩)
theorem xw_cause {cd : Nat → Nat → Option aI} {z : Bool} (hz : ∀ m p i, cd0 z m p = some i → cd m p = some i) {q : Nat} {M : aM} (hI : LZ q M) (x1 : Int32) (x2 : Int32) : wpS cd (39, [], 121, 0, la 0 [.inr (.inr (some 0)), .inl x1, .inl x2], [], M) (fun r M' => ∃ x, r = some (.inl x) ∧ LY q M') := by
  have hct := hc_of hz
  obtain ⟨b, rg, hL, hJ, hr, hR, hW⟩ := hI
  exact wpS_mono (oXcause hct hL x1 x2 (d := 39) (by omega)) (fun r M' h => ⟨_, (cQ_i rfl h).choose_spec, LY_x hL hJ hr hR h oXcause_p oXcause_j (by decide) (by decide)⟩)
theorem xw_sure {cd : Nat → Nat → Option aI} {z : Bool} (hz : ∀ m p i, cd0 z m p = some i → cd m p = some i) {q : Nat} {M : aM} (hI : LZ q M) (x1 : Int32) : wpS cd (39, [], 122, 0, la 0 [.inr (.inr (some 0)), .inl x1], [], M) (fun r M' => ∃ x, r = some (.inl x) ∧ LY q M') := by
  have hct := hc_of hz
  obtain ⟨b, rg, hL, hJ, hr, hR, hW⟩ := hI
  exact wpS_mono (oXsure hct hL x1 (d := 39) (by omega)) (fun r M' h => ⟨_, (cQ_i rfl h).choose_spec, LY_x hL hJ hr hR h oXsure_p oXsure_j (by decide) (by decide)⟩)
theorem xw_off {cd : Nat → Nat → Option aI} {z : Bool} (hz : ∀ m p i, cd0 z m p = some i → cd m p = some i) {q : Nat} {M : aM} (hI : LZ q M) (x1 : Int32) (x2 : Int32) (h2 : 0 ≤ x2.toInt ∧ x2.toInt ≤ 1) : wpS cd (39, [], 123, 0, la 0 [.inr (.inr (some 0)), .inl x1, .inl x2], [], M) (fun r M' => ∃ x, r = some (.inl x) ∧ LY q M') := by
  have hct := hc_of hz
  obtain ⟨b, rg, hL, hJ, hr, hR, hW⟩ := hI
  exact wpS_mono (oXoff hct hL x1 x2 h2 (d := 39) (by omega)) (fun r M' h => ⟨_, (cQ_i rfl h).choose_spec, LY_x hL hJ hr hR h oXoff_p oXoff_j (by decide) (by decide)⟩)
theorem xw_ring {cd : Nat → Nat → Option aI} {z : Bool} (hz : ∀ m p i, cd0 z m p = some i → cd m p = some i) {q : Nat} {M : aM} (hI : LZ q M) (x1 : Int32) : wpS cd (39, [], 124, 0, la 0 [.inr (.inr (some 0)), .inl x1], [], M) (fun r M' => ∃ x, r = some (.inl x) ∧ LY q M') := by
  have hct := hc_of hz
  obtain ⟨b, rg, hL, hJ, hr, hR, hW⟩ := hI
  exact wpS_mono (oXring hct hL x1 (d := 39) (by omega)) (fun r M' h => ⟨_, (cQ_i rfl h).choose_spec, LY_x hL hJ hr hR h oXring_p oXring_j (by decide) (by decide)⟩)
theorem xw_sees {cd : Nat → Nat → Option aI} {z : Bool} (hz : ∀ m p i, cd0 z m p = some i → cd m p = some i) {q : Nat} {M : aM} (hI : LZ q M) (x1 : Int32) : wpS cd (39, [], 125, 0, la 0 [.inr (.inr (some 0)), .inl x1], [], M) (fun r M' => ∃ x, r = some (.inl x) ∧ LY q M') := by
  have hct := hc_of hz
  obtain ⟨b, rg, hL, hJ, hr, hR, hW⟩ := hI
  exact wpS_mono (oXsees hct hL x1 (d := 39) (by omega)) (fun r M' h => ⟨_, (cQ_i rfl h).choose_spec, LY_x hL hJ hr hR h oXsees_p oXsees_j (by decide) (by decide)⟩)
theorem xw_blow {cd : Nat → Nat → Option aI} {z : Bool} (hz : ∀ m p i, cd0 z m p = some i → cd m p = some i) {q : Nat} {M : aM} (hI : LZ q M) (x1 : Int32) (x2 : Int32) (x3 : Int32) : wpS cd (39, [], 126, 0, la 0 [.inr (.inr (some 0)), .inl x1, .inl x2, .inl x3], [], M) (fun r M' => ∃ x, r = some (.inl x) ∧ LY q M') := by
  have hct := hc_of hz
  obtain ⟨b, rg, hL, hJ, hr, hR, hW⟩ := hI
  exact wpS_mono (oXblow hct hL x1 x2 x3 (d := 39) (by omega)) (fun r M' h => ⟨_, (cQ_i rfl h).choose_spec, LY_x hL hJ hr hR h oXblow_p oXblow_j (by decide) (by decide)⟩)
theorem xw_fewest {cd : Nat → Nat → Option aI} {z : Bool} (hz : ∀ m p i, cd0 z m p = some i → cd m p = some i) {q : Nat} {M : aM} (hI : LZ q M) (x1 : Int32) (x2 : Int32) : wpS cd (39, [], 127, 0, la 0 [.inr (.inr (some 0)), .inl x1, .inl x2], [], M) (fun r M' => ∃ x, r = some (.inl x) ∧ LY q M') := by
  have hct := hc_of hz
  obtain ⟨b, rg, hL, hJ, hr, hR, hW⟩ := hI
  exact wpS_mono (oXfewest hct hL x1 x2 (d := 39) (by omega)) (fun r M' h => ⟨_, (cQ_i rfl h).choose_spec, LY_x hL hJ hr hR h oXfewest_p oXfewest_j (by decide) (by decide)⟩)
theorem xw_stroke {cd : Nat → Nat → Option aI} {z : Bool} (hz : ∀ m p i, cd0 z m p = some i → cd m p = some i) {q : Nat} {M : aM} (hI : LZ q M) (x1 : Int32) : wpS cd (39, [], 128, 0, la 0 [.inr (.inr (some 0)), .inl x1], [], M) (fun r M' => ∃ x, r = some (.inl x) ∧ LZ q M') := by
  have hct := hc_of hz
  obtain ⟨b, rg, hL, hJ, hr, hR, hW⟩ := hI
  exact wpS_mono (oXstroke hct hL x1 (d := 39) (by omega)) (fun r M' h => ⟨_, (cQ_i rfl h).choose_spec, LZ_k hL hJ hr hR hW h.1 h.2.1 oXstroke_p oXstroke_j (by decide) (by decide)⟩)
theorem xw_heat {cd : Nat → Nat → Option aI} {z : Bool} (hz : ∀ m p i, cd0 z m p = some i → cd m p = some i) {q : Nat} {M : aM} (hI : LZ q M) : wpS cd (39, [], 129, 0, la 0 [.inr (.inr (some 0))], [], M) (fun r M' => ∃ x, r = some (.inl x) ∧ LY q M') := by
  have hct := hc_of hz
  obtain ⟨b, rg, hL, hJ, hr, hR, hW⟩ := hI
  exact wpS_mono (oXheat hct hL (d := 39) (by omega)) (fun r M' h => ⟨_, (cQ_i rfl h).choose_spec, LY_x hL hJ hr hR h oXheat_p oXheat_j (by decide) (by decide)⟩)
theorem xw_about {cd : Nat → Nat → Option aI} {z : Bool} (hz : ∀ m p i, cd0 z m p = some i → cd m p = some i) {q : Nat} {M : aM} (hI : LZ q M) : wpS cd (39, [], 130, 0, la 0 [.inr (.inr (some 0))], [], M) (fun r M' => ∃ x, r = some (.inl x) ∧ LY q M') := by
  have hct := hc_of hz
  obtain ⟨b, rg, hL, hJ, hr, hR, hW⟩ := hI
  exact wpS_mono (oXabout hct hL (d := 39) (by omega)) (fun r M' h => ⟨_, (cQ_i rfl h).choose_spec, LY_x hL hJ hr hR h oXabout_p oXabout_j (by decide) (by decide)⟩)
theorem xw_trouble {cd : Nat → Nat → Option aI} {z : Bool} (hz : ∀ m p i, cd0 z m p = some i → cd m p = some i) {q : Nat} {M : aM} (hI : LZ q M) : wpS cd (39, [], 136, 0, la 0 [.inr (.inr (some 0))], [], M) (fun r M' => ∃ x, r = some (.inl x) ∧ LZ q M') := by
  have hct := hc_of hz
  obtain ⟨b, rg, hL, hJ, hr, hR, hW⟩ := hI
  exact wpS_mono (oXtrouble hct hL (d := 39) (by omega)) (fun r M' h => ⟨_, (cQ_i rfl h).choose_spec, LZ_k hL hJ hr hR hW h.1 h.2.1 oXtrouble_p oXtrouble_j (by decide) (by decide)⟩)
theorem xw_fault {cd : Nat → Nat → Option aI} {z : Bool} (hz : ∀ m p i, cd0 z m p = some i → cd m p = some i) {q : Nat} {M : aM} (hI : LZ q M) : wpS cd (39, [], 106, 0, la 0 [.inr (.inr (some 0))], [], M) (fun r M' => ∃ x, r = some (.inl x) ∧ LZ q M') := by
  have hct := hc_of hz
  obtain ⟨b, rg, hL, hJ, hr, hR, hW⟩ := hI
  exact wpS_mono (oXfault hct hL (d := 39) (by omega)) (fun r M' h => ⟨_, (cQ_i rfl h).choose_spec, LZ_k hL hJ hr hR hW h.1 h.2.1 oXfault_p oXfault_j (by decide) (by decide)⟩)
theorem xw_where {cd : Nat → Nat → Option aI} {z : Bool} (hz : ∀ m p i, cd0 z m p = some i → cd m p = some i) {q : Nat} {M : aM} (hI : LZ q M) : wpS cd (39, [], 107, 0, la 0 [.inr (.inr (some 0))], [], M) (fun r M' => ∃ x, r = some (.inl x) ∧ LZ q M') := by
  have hct := hc_of hz
  obtain ⟨b, rg, hL, hJ, hr, hR, hW⟩ := hI
  exact wpS_mono (oXwhere hct hL (d := 39) (by omega)) (fun r M' h => ⟨_, (cQ_i rfl h).choose_spec, LZ_k hL hJ hr hR hW h.1 h.2.1 oXwhere_p oXwhere_j (by decide) (by decide)⟩)
theorem xw_state {cd : Nat → Nat → Option aI} {z : Bool} (hz : ∀ m p i, cd0 z m p = some i → cd m p = some i) {q : Nat} {M : aM} (hI : LZ q M) (x1 : Int32) : wpS cd (39, [], 111, 0, la 0 [.inr (.inr (some 0)), .inl x1], [], M) (fun r M' => ∃ x, r = some (.inl x) ∧ LZ q M') := by
  have hct := hc_of hz
  obtain ⟨b, rg, hL, hJ, hr, hR, hW⟩ := hI
  exact wpS_mono (oXstate hct hL x1 (d := 39) (by omega)) (fun r M' h => ⟨_, (cQ_i rfl h).choose_spec, LZ_k hL hJ hr hR hW h.1 h.2.1 oXstate_p oXstate_j (by decide) (by decide)⟩)
theorem mw_inch {cd : Nat → Nat → Option aI} {z : Bool} (hz : ∀ m p i, cd0 z m p = some i → cd m p = some i) {q : Nat} {M : aM} (hI : LY q M) (x1 : Int32) (x2 : Int32) : wpS cd (39, [], 193, 0, la 0 [.inr (.inr (some 113)), .inl x1, .inl x2], [], M) (fun r M' => ∃ x, r = some (.inl x) ∧ LZ q M') := by
  have hct := hc_of hz
  obtain ⟨b, rg, hL, hJ, hr, hR, hW⟩ := hI
  exact wpS_mono (oMinch hct hL hJ x1 x2 (d := 39) (by omega)) (fun r M' h => ⟨_, (cQ_i rfl h).choose_spec, LZ_m hL hJ (JM_fr hL hJ h.2.1 oMinch_j) hr hR hW h.1 h.2.1 oMinch_p (by decide) (by decide) (sM_ok hL (by decide) h)⟩)
theorem mw_rows {cd : Nat → Nat → Option aI} {z : Bool} (hz : ∀ m p i, cd0 z m p = some i → cd m p = some i) {q : Nat} {M : aM} (hI : LY q M) (x1 : Int32) : wpS cd (39, [], 200, 0, la 0 [.inr (.inr (some 113)), .inl x1], [], M) (fun r M' => ∃ x, r = some (.inl x) ∧ LZ q M') := by
  have hct := hc_of hz
  obtain ⟨b, rg, hL, hJ, hr, hR, hW⟩ := hI
  exact wpS_mono (oMrows hct hL hJ x1 (d := 39) (by omega)) (fun r M' h => ⟨_, (cQ_i rfl h).choose_spec, LZ_m hL hJ (JM_fr hL hJ h.2.1 oMrows_j) hr hR hW h.1 h.2.1 oMrows_p (by decide) (by decide) (sM_ok hL (by decide) h)⟩)
theorem mw_cheapest {cd : Nat → Nat → Option aI} {z : Bool} (hz : ∀ m p i, cd0 z m p = some i → cd m p = some i) {q : Nat} {M : aM} (hI : LY q M) (x1 : Int32) (x2 : Int32) : wpS cd (39, [], 201, 0, la 0 [.inr (.inr (some 113)), .inl x1, .inl x2], [], M) (fun r M' => ∃ x, r = some (.inl x) ∧ LZ q M') := by
  have hct := hc_of hz
  obtain ⟨b, rg, hL, hJ, hr, hR, hW⟩ := hI
  exact wpS_mono (oMcheapest hct hL hJ x1 x2 (d := 39) (by omega)) (fun r M' h => ⟨_, (cQ_i rfl h).choose_spec, LZ_m hL hJ (JM_fr hL hJ h.2.1 oMcheapest_j) hr hR hW h.1 h.2.1 oMcheapest_p (by decide) (by decide) (sM_ok hL (by decide) h)⟩)
theorem mw_feedAt {cd : Nat → Nat → Option aI} {z : Bool} (hz : ∀ m p i, cd0 z m p = some i → cd m p = some i) {q : Nat} {M : aM} (hI : LZ q M) (x1 : Int32) : wpS cd (39, [], 202, 0, la 0 [.inr (.inr (some 113)), .inl x1], [], M) (fun r M' => ∃ x, r = some (.inl x) ∧ LZ q M') := by
  have hct := hc_of hz
  obtain ⟨b, rg, hL, hJ, hr, hR, hW⟩ := hI
  exact wpS_mono (oMfeedAt hct hL hJ x1 (d := 39) (by omega)) (fun r M' h => ⟨_, (cQ_i rfl h).choose_spec, LZ_k hL hJ hr hR hW h.1 h.2.1 oMfeedAt_p oMfeedAt_j (by decide) (by decide)⟩)
theorem mw_met {cd : Nat → Nat → Option aI} {z : Bool} (hz : ∀ m p i, cd0 z m p = some i → cd m p = some i) {q : Nat} {M : aM} (hI : LY q M) (x1 : Int32) : wpS cd (39, [], 205, 0, la 0 [.inr (.inr (some 113)), .inl x1], [], M) (fun r M' => ∃ x, r = some (.inl x) ∧ LZ q M') := by
  have hct := hc_of hz
  obtain ⟨b, rg, hL, hJ, hr, hR, hW⟩ := hI
  exact wpS_mono (oMmet hct hL hJ x1 (d := 39) (by omega)) (fun r M' h => ⟨_, (cQ_i rfl h).choose_spec, LZ_m hL hJ (JM_fr hL hJ h.2.1 oMmet_j) hr hR hW h.1 h.2.1 oMmet_p (by decide) (by decide) (sM_ok hL (by decide) h)⟩)
theorem mw_meet {cd : Nat → Nat → Option aI} {z : Bool} (hz : ∀ m p i, cd0 z m p = some i → cd m p = some i) {q : Nat} {M : aM} (hI : LY q M) : wpS cd (39, [], 206, 0, la 0 [.inr (.inr (some 113))], [], M) (fun r M' => ∃ x, r = some (.inl x) ∧ LZ q M') := by
  have hct := hc_of hz
  obtain ⟨b, rg, hL, hJ, hr, hR, hW⟩ := hI
  exact wpS_mono (oMmeet hct hL hJ (d := 39) (by omega)) (fun r M' h => ⟨_, (cQ_i rfl h).choose_spec, LZ_m hL hJ (JM_fr hL hJ h.2.1 oMmeet_j) hr hR hW h.1 h.2.1 oMmeet_p (by decide) (by decide) (sM_ok hL (by decide) h)⟩)
theorem mw_causes {cd : Nat → Nat → Option aI} {z : Bool} (hz : ∀ m p i, cd0 z m p = some i → cd m p = some i) {q : Nat} {M : aM} (hI : LY q M) : wpS cd (39, [], 212, 0, la 0 [.inr (.inr (some 113))], [], M) (fun r M' => ∃ x, r = some (.inl x) ∧ LZ q M') := by
  have hct := hc_of hz
  obtain ⟨b, rg, hL, hJ, hr, hR, hW⟩ := hI
  exact wpS_mono (oMcauses hct hL hJ (d := 39) (by omega)) (fun r M' h => ⟨_, (cQ_i rfl h).choose_spec, LZ_m hL hJ (JM_fr hL hJ h.2.1 oMcauses_j) hr hR hW h.1 h.2.1 oMcauses_p (by decide) (by decide) (sM_ok hL (by decide) h)⟩)
theorem mw_cause {cd : Nat → Nat → Option aI} {z : Bool} (hz : ∀ m p i, cd0 z m p = some i → cd m p = some i) {q : Nat} {M : aM} (hI : LY q M) (x1 : Int32) (x2 : Int32) : wpS cd (39, [], 213, 0, la 0 [.inr (.inr (some 113)), .inl x1, .inl x2], [], M) (fun r M' => ∃ x, r = some (.inl x) ∧ LZ q M') := by
  have hct := hc_of hz
  obtain ⟨b, rg, hL, hJ, hr, hR, hW⟩ := hI
  exact wpS_mono (oMcause hct hL hJ x1 x2 (d := 39) (by omega)) (fun r M' h => ⟨_, (cQ_i rfl h).choose_spec, LZ_m hL hJ (JM_fr hL hJ h.2.1 oMcause_j) hr hR hW h.1 h.2.1 oMcause_p (by decide) (by decide) (sM_ok hL (by decide) h)⟩)
theorem mw_sure {cd : Nat → Nat → Option aI} {z : Bool} (hz : ∀ m p i, cd0 z m p = some i → cd m p = some i) {q : Nat} {M : aM} (hI : LY q M) (x1 : Int32) : wpS cd (39, [], 214, 0, la 0 [.inr (.inr (some 113)), .inl x1], [], M) (fun r M' => ∃ x, r = some (.inl x) ∧ LZ q M') := by
  have hct := hc_of hz
  obtain ⟨b, rg, hL, hJ, hr, hR, hW⟩ := hI
  exact wpS_mono (oMsure hct hL hJ x1 (d := 39) (by omega)) (fun r M' h => ⟨_, (cQ_i rfl h).choose_spec, LZ_m hL hJ (JM_fr hL hJ h.2.1 oMsure_j) hr hR hW h.1 h.2.1 oMsure_p (by decide) (by decide) (sM_ok hL (by decide) h)⟩)
theorem mw_off {cd : Nat → Nat → Option aI} {z : Bool} (hz : ∀ m p i, cd0 z m p = some i → cd m p = some i) {q : Nat} {M : aM} (hI : LY q M) (x1 : Int32) (x2 : Int32) (h2 : 0 ≤ x2.toInt ∧ x2.toInt ≤ 1) : wpS cd (39, [], 218, 0, la 0 [.inr (.inr (some 113)), .inl x1, .inl x2], [], M) (fun r M' => ∃ x, r = some (.inl x) ∧ LZ q M') := by
  have hct := hc_of hz
  obtain ⟨b, rg, hL, hJ, hr, hR, hW⟩ := hI
  exact wpS_mono (oMoff hct hL hJ x1 x2 h2 (d := 39) (by omega)) (fun r M' h => ⟨_, (cQ_i rfl h).choose_spec, LZ_m hL hJ (JM_fr hL hJ h.2.1 oMoff_j) hr hR hW h.1 h.2.1 oMoff_p (by decide) (by decide) (sM_ok hL (by decide) h)⟩)
theorem mw_ring {cd : Nat → Nat → Option aI} {z : Bool} (hz : ∀ m p i, cd0 z m p = some i → cd m p = some i) {q : Nat} {M : aM} (hI : LY q M) (x1 : Int32) : wpS cd (39, [], 222, 0, la 0 [.inr (.inr (some 113)), .inl x1], [], M) (fun r M' => ∃ x, r = some (.inl x) ∧ LZ q M') := by
  have hct := hc_of hz
  obtain ⟨b, rg, hL, hJ, hr, hR, hW⟩ := hI
  exact wpS_mono (oMring hct hL hJ x1 (d := 39) (by omega)) (fun r M' h => ⟨_, (cQ_i rfl h).choose_spec, LZ_m hL hJ (JM_fr hL hJ h.2.1 oMring_j) hr hR hW h.1 h.2.1 oMring_p (by decide) (by decide) (sM_ok hL (by decide) h)⟩)
theorem mw_sees {cd : Nat → Nat → Option aI} {z : Bool} (hz : ∀ m p i, cd0 z m p = some i → cd m p = some i) {q : Nat} {M : aM} (hI : LY q M) (x1 : Int32) : wpS cd (39, [], 223, 0, la 0 [.inr (.inr (some 113)), .inl x1], [], M) (fun r M' => ∃ x, r = some (.inl x) ∧ LZ q M') := by
  have hct := hc_of hz
  obtain ⟨b, rg, hL, hJ, hr, hR, hW⟩ := hI
  exact wpS_mono (oMsees hct hL hJ x1 (d := 39) (by omega)) (fun r M' h => ⟨_, (cQ_i rfl h).choose_spec, LZ_m hL hJ (JM_fr hL hJ h.2.1 oMsees_j) hr hR hW h.1 h.2.1 oMsees_p (by decide) (by decide) (sM_ok hL (by decide) h)⟩)
theorem mw_stroke {cd : Nat → Nat → Option aI} {z : Bool} (hz : ∀ m p i, cd0 z m p = some i → cd m p = some i) {q : Nat} {M : aM} (hI : LZ q M) (x1 : Int32) : wpS cd (39, [], 232, 0, la 0 [.inr (.inr (some 113)), .inl x1], [], M) (fun r M' => ∃ x, r = some (.inl x) ∧ LZ q M') := by
  have hct := hc_of hz
  obtain ⟨b, rg, hL, hJ, hr, hR, hW⟩ := hI
  exact wpS_mono (oMstroke hct hL hJ x1 (d := 39) (by omega)) (fun r M' h => ⟨_, (cQ_i rfl h).choose_spec, LZ_k hL hJ hr hR hW h.1 h.2.1 oMstroke_p oMstroke_j (by decide) (by decide)⟩)
theorem mw_about {cd : Nat → Nat → Option aI} {z : Bool} (hz : ∀ m p i, cd0 z m p = some i → cd m p = some i) {q : Nat} {M : aM} (hI : LY q M) : wpS cd (39, [], 234, 0, la 0 [.inr (.inr (some 113))], [], M) (fun r M' => ∃ x, r = some (.inl x) ∧ LZ q M') := by
  have hct := hc_of hz
  obtain ⟨b, rg, hL, hJ, hr, hR, hW⟩ := hI
  exact wpS_mono (oMabout hct hL hJ (d := 39) (by omega)) (fun r M' h => ⟨_, (cQ_i rfl h).choose_spec, LZ_m hL hJ (JM_fr hL hJ h.2.1 oMabout_j) hr hR hW h.1 h.2.1 oMabout_p (by decide) (by decide) (sM_ok hL (by decide) h)⟩)
theorem mw_trouble {cd : Nat → Nat → Option aI} {z : Bool} (hz : ∀ m p i, cd0 z m p = some i → cd m p = some i) {q : Nat} {M : aM} (hI : LZ q M) : wpS cd (39, [], 242, 0, la 0 [.inr (.inr (some 113))], [], M) (fun r M' => ∃ x, r = some (.inl x) ∧ LZ q M') := by
  have hct := hc_of hz
  obtain ⟨b, rg, hL, hJ, hr, hR, hW⟩ := hI
  exact wpS_mono (oMtrouble hct hL hJ (d := 39) (by omega)) (fun r M' h => ⟨_, (cQ_i rfl h).choose_spec, LZ_k hL hJ hr hR hW h.1 h.2.1 oMtrouble_p oMtrouble_j (by decide) (by decide)⟩)
theorem mw_fault {cd : Nat → Nat → Option aI} {z : Bool} (hz : ∀ m p i, cd0 z m p = some i → cd m p = some i) {q : Nat} {M : aM} (hI : LZ q M) : wpS cd (39, [], 182, 0, la 0 [.inr (.inr (some 113))], [], M) (fun r M' => ∃ x, r = some (.inl x) ∧ LZ q M') := by
  have hct := hc_of hz
  obtain ⟨b, rg, hL, hJ, hr, hR, hW⟩ := hI
  exact wpS_mono (oMfault hct hL hJ (d := 39) (by omega)) (fun r M' h => ⟨_, (cQ_i rfl h).choose_spec, LZ_k hL hJ hr hR hW h.1 h.2.1 oMfault_p oMfault_j (by decide) (by decide)⟩)
theorem mw_where {cd : Nat → Nat → Option aI} {z : Bool} (hz : ∀ m p i, cd0 z m p = some i → cd m p = some i) {q : Nat} {M : aM} (hI : LZ q M) : wpS cd (39, [], 183, 0, la 0 [.inr (.inr (some 113))], [], M) (fun r M' => ∃ x, r = some (.inl x) ∧ LZ q M') := by
  have hct := hc_of hz
  obtain ⟨b, rg, hL, hJ, hr, hR, hW⟩ := hI
  exact wpS_mono (oMwhere hct hL hJ (d := 39) (by omega)) (fun r M' h => ⟨_, (cQ_i rfl h).choose_spec, LZ_k hL hJ hr hR hW h.1 h.2.1 oMwhere_p oMwhere_j (by decide) (by decide)⟩)
theorem mw_state {cd : Nat → Nat → Option aI} {z : Bool} (hz : ∀ m p i, cd0 z m p = some i → cd m p = some i) {q : Nat} {M : aM} (hI : LZ q M) (x1 : Int32) : wpS cd (39, [], 194, 0, la 0 [.inr (.inr (some 113)), .inl x1], [], M) (fun r M' => ∃ x, r = some (.inl x) ∧ LZ q M') := by
  have hct := hc_of hz
  obtain ⟨b, rg, hL, hJ, hr, hR, hW⟩ := hI
  exact wpS_mono (oMstate hct hL hJ x1 (d := 39) (by omega)) (fun r M' h => ⟨_, (cQ_i rfl h).choose_spec, LZ_k hL hJ hr hR hW h.1 h.2.1 oMstate_p oMstate_j (by decide) (by decide)⟩)
theorem mw_led {cd : Nat → Nat → Option aI} {z : Bool} (hz : ∀ m p i, cd0 z m p = some i → cd m p = some i) {q : Nat} {M : aM} (hI : LZ q M) (x1 : Int32) : wpS cd (39, [], 241, 0, la 0 [.inr (.inr (some 113)), .inl x1], [], M) (fun r M' => ∃ x, r = some (.inl x) ∧ LZ q M') := by
  have hct := hc_of hz
  obtain ⟨b, rg, hL, hJ, hr, hR, hW⟩ := hI
  exact wpS_mono (oMled hct hL hJ x1 (d := 39) (by omega)) (fun r M' h => ⟨_, (cQ_i rfl h).choose_spec, LZ_k hL hJ hr hR hW h.1 h.2.1 oMled_p oMled_j (by decide) (by decide)⟩)
theorem mw_rod {cd : Nat → Nat → Option aI} {z : Bool} (hz : ∀ m p i, cd0 z m p = some i → cd m p = some i) {q : Nat} {M : aM} (hI : LY q M) (x1 : Int32) (h1 : 0 ≤ x1.toInt ∧ x1.toInt ≤ 1) : wpS cd (39, [], 190, 0, la 0 [.inr (.inr (some 113)), .inl x1], [], M) (fun r M' => ∃ x, r = some (.inl x) ∧ LZ q M') := by
  have hct := hc_of hz
  obtain ⟨b, rg, hL, hJ, hr, hR, hW⟩ := hI
  rcases hJ.2.1 with hu | ⟨u, hu, hj⟩
  · exact wpS_mono (oMrod_0 hct hL hJ hu x1 h1 (d := 39) (by omega)) (fun r M' h => ⟨_, (cQ_i rfl h).choose_spec, LZ_m hL hJ (JM_fr hL hJ h.2.1 oMrod_0_j) hr hR hW h.1 h.2.1 oMrod_0_p (by decide) (by decide) (sM_ok hL (by decide) h)⟩)
  · refine wpS_mono (oMrod_1 hct hL hJ hu hj x1 h1 (d := 39) (by omega)) (fun r M' h => ?_)
    obtain ⟨x, hx⟩ := cQ_i rfl h
    have hs2 := sM_ok hL (by decide) h
    refine ⟨x, hx, ?_⟩
    obtain ⟨h1, h2, a, ha, hp⟩ := h
    have ha := List.mem_singleton.mp ha
    subst ha
    have hn : a_n M' = a_n M := h2.1.1
    have e1 := hp.2 ((687, 7), .inl (0, 0)) (List.mem_of_getElem? (i := 1) rfl) 115 (by rw [hn]; exact lo_n hL (by decide)) (rg_at hL (by decide) (fun b => by cases b <;> rfl))
    have e2 := hp.2 ((13, 31), .inl (0, 0)) (List.mem_of_getElem? (i := 2) rfl) 113 (by rw [hn]; exact lo_n hL (by decide)) (rg_at hL (by decide) (fun b => by cases b <;> rfl))
    have e1 : 0 ≤ dnM M' ∧ dnM M' ≤ 0 := e1
    have e2 : 0 ≤ (a_I M' 113 31).toInt ∧ (a_I M' 113 31).toInt ≤ 0 := e2
    have hin := (JS_in hL hj).1
    exact LZ_m hL hJ (JM_dn hL hJ h2 (by decide) hu (by omega) (by omega) e2.2) hr hR hW h1 h2 oMrod_1_p (by decide) (by decide) hs2
theorem mw_drill {cd : Nat → Nat → Option aI} {z : Bool} (hz : ∀ m p i, cd0 z m p = some i → cd m p = some i) {q : Nat} {M : aM} (hI : LY q M) (x1 : Int32) : wpS cd (39, [], 191, 0, la 0 [.inr (.inr (some 113)), .inl x1], [], M) (fun r M' => ∃ x, r = some (.inl x) ∧ LZ q M') := by
  have hct := hc_of hz
  obtain ⟨b, rg, hL, hJ, hr, hR, hW⟩ := hI
  rcases hJ.2.1 with hu | ⟨u, hu, hj⟩
  · exact wpS_mono (oMdrill_0 hct hL hJ hu x1 (d := 39) (by omega)) (fun r M' h => ⟨_, (cQ_i rfl h).choose_spec, LZ_m hL hJ (JM_fr hL hJ h.2.1 oMdrill_0_j) hr hR hW h.1 h.2.1 oMdrill_0_p (by decide) (by decide) (sM_ok hL (by decide) h)⟩)
  · have hbl := LB_bl hL
    have hin := (JS_in hL hj).1
    by_cases c : 1 ≤ (a_I M 113 31).toInt
    · exact wpS_mono (oMdrill_b hct hL hJ hu hj ⟨c, hbl.2⟩ x1 (d := 39) (by omega)) (fun r M' h => ⟨_, (cQ_i rfl h).choose_spec, LZ_m hL hJ (JM_fr hL hJ h.2.1 oMdrill_b_j) hr hR hW h.1 h.2.1 oMdrill_b_p (by decide) (by decide) (sM_ok hL (by decide) h)⟩)
    · refine wpS_mono (oMdrill hct hL hJ hu hj (vl_dr hin.1 hin.2) rfl x1 (d := 39) (by omega)) (fun r M' h => ?_)
      obtain ⟨x, hx⟩ := cQ_i rfl h
      have hs2 := sM_ok hL rfl h
      refine ⟨x, hx, ?_⟩
      obtain ⟨h1, h2, a, ha, hp⟩ := h
      have ha := List.mem_singleton.mp ha
      subst ha
      have hn : a_n M' = a_n M := h2.1.1
      have e1 := hp.2 ((687, 7), .inl (0, (a_I M u 0).toInt)) (List.mem_of_getElem? (i := 1) rfl) 115 (by rw [hn]; exact lo_n hL (by decide)) (rg_at hL (by decide) (fun b => by cases b <;> rfl))
      have e1 : 0 ≤ dnM M' ∧ dnM M' ≤ (a_I M u 0).toInt := e1
      have e2 : a_I M' 113 31 = a_I M 113 31 := Fr_I h2 (rg_at hL (by decide) (fun b => by cases b <;> rfl)) rfl
      exact LZ_m hL hJ (JM_dn hL hJ h2 rfl hu (by omega) e1.2 (by rw [e2]; omega)) hr hR hW h1 h2 (oMdrill_p _) rfl rfl hs2
theorem mw_odds {cd : Nat → Nat → Option aI} {z : Bool} (hz : ∀ m p i, cd0 z m p = some i → cd m p = some i) {q : Nat} {M : aM} (hI : LY q M) (x1 : Int32) (x2 : Int32) : wpS cd (39, [], 199, 0, la 0 [.inr (.inr (some 113)), .inl x1, .inl x2], [], M) (fun r M' => ∃ x, r = some (.inl x) ∧ LZ q M') := by
  have hct := hc_of hz
  obtain ⟨b, rg, hL, hJ, hr, hR, hW⟩ := hI
  rcases hJ.2.1 with hu | ⟨u, hu, hj⟩
  · exact wpS_mono (oModds_0 hct hL hJ hu x1 x2 (d := 39) (by omega)) (fun r M' h => ⟨_, (cQ_i rfl h).choose_spec, LZ_m hL hJ (JM_fr hL hJ h.2.1 oModds_0_j) hr hR hW h.1 h.2.1 oModds_0_p (by decide) (by decide) (sM_ok hL (by decide) h)⟩)
  · exact wpS_mono (oModds hct hL hJ hu hj x1 x2 (d := 39) (by omega)) (fun r M' h => ⟨_, (cQ_i rfl h).choose_spec, LZ_m hL hJ (JM_fr hL hJ h.2.1 oModds_j) hr hR hW h.1 h.2.1 oModds_p (by decide) (by decide) (sM_ok hL (by decide) h)⟩)
theorem mw_fewest {cd : Nat → Nat → Option aI} {z : Bool} (hz : ∀ m p i, cd0 z m p = some i → cd m p = some i) {q : Nat} {M : aM} (hI : LY q M) (x1 : Int32) (x2 : Int32) : wpS cd (39, [], 231, 0, la 0 [.inr (.inr (some 113)), .inl x1, .inl x2], [], M) (fun r M' => ∃ x, r = some (.inl x) ∧ LZ q M') := by
  have hct := hc_of hz
  obtain ⟨b, rg, hL, hJ, hr, hR, hW⟩ := hI
  rcases hJ.2.1 with hu | ⟨u, hu, hj⟩
  · exact wpS_mono (oMfewest_0 hct hL hJ hu x1 x2 (d := 39) (by omega)) (fun r M' h => ⟨_, (cQ_i rfl h).choose_spec, LZ_m hL hJ (JM_fr hL hJ h.2.1 oMfewest_0_j) hr hR hW h.1 h.2.1 oMfewest_0_p (by decide) (by decide) (sM_ok hL (by decide) h)⟩)
  · have hd9 := hJ.1
    by_cases c1 : dnM M ≤ 2
    · exact wpS_mono (oMfewest_s hct hL hJ hu hj ⟨hd9.1, c1⟩ x1 x2 (d := 39) (by omega)) (fun r M' h => ⟨_, (cQ_i rfl h).choose_spec, LZ_m hL hJ (JM_fr hL hJ h.2.1 oMfewest_s_j) hr hR hW h.1 h.2.1 oMfewest_s_p (by decide) (by decide) (sM_ok hL (by decide) h)⟩)
    · by_cases c2 : dnM M = 3
      · exact wpS_mono (oMfewest_3 hct hL hJ hu hj c2 x1 x2 (d := 39) (by omega)) (fun r M' h => ⟨_, (cQ_i rfl h).choose_spec, LZ_m hL hJ (JM_fr hL hJ h.2.1 oMfewest_3_j) hr hR hW h.1 h.2.1 oMfewest_3_p (by decide) (by decide) (sM_ok hL (by decide) h)⟩)
      · exact wpS_mono (oMfewest hct hL hJ hu hj (vl_fw (v := dnM M) (by omega) hd9.2) rfl x1 x2 (d := 39) (by omega)) (fun r M' h => ⟨_, (cQ_i rfl h).choose_spec, LZ_m hL hJ (JM_fr hL hJ h.2.1 (oMfewest_j _)) hr hR hW h.1 h.2.1 (oMfewest_p _) rfl rfl (sM_ok hL rfl h)⟩)
theorem mw_blow {cd : Nat → Nat → Option aI} {z : Bool} (hz : ∀ m p i, cd0 z m p = some i → cd m p = some i) {q : Nat} {M : aM} (hI : LY q M) (x1 : Int32) (x2 : Int32) (x3 : Int32) : wpS cd (39, [], 226, 0, la 0 [.inr (.inr (some 113)), .inl x1, .inl x2, .inl x3], [], M) (fun r M' => ∃ x, r = some (.inl x) ∧ LZ q M') := by
  obtain ⟨b, rg, hL, hJ, hr, hR, hW⟩ := hI
  have key : ∀ M', HQ b rg msBl M M' → LZ q M' := fun M' h => LZ_m hL hJ h.1.2.1 hr hR hW h.1.1.1 h.1.2.2 (by decide +kernel) (by decide) (by decide) h.2
  rcases hJ.2.1 with hu | ⟨u, hu, hj⟩
  · refine wpS_mono (r_blow0 hz hL hJ x1 x2 x3 (nvO_A (LB_nv (τ := id) hL) hu) (d := 38)) (fun r M' h => ?_)
    obtain ⟨y, y1, y2⟩ := h
    exact ⟨y, y1, key M' y2⟩
  · refine wpS_mono (r_blow1 hz hL hJ x1 x2 x3 hu (d := 36)) (fun r M' h => ?_)
    obtain ⟨y, y1, y2⟩ := h
    exact ⟨y, y1, key M' y2⟩
theorem mw_heat {cd : Nat → Nat → Option aI} {z : Bool} (hz : ∀ m p i, cd0 z m p = some i → cd m p = some i) {q : Nat} {M : aM} (hI : LY q M) : wpS cd (39, [], 233, 0, la 0 [.inr (.inr (some 113))], [], M) (fun r M' => ∃ x, r = some (.inl x) ∧ LZ q M') := by
  obtain ⟨b, rg, hL, hJ, hr, hR, hW⟩ := hI
  have key : ∀ M', HQ b rg msBl M M' → LZ q M' := fun M' h => LZ_m hL hJ h.1.2.1 hr hR hW h.1.1.1 h.1.2.2 (by decide +kernel) (by decide) (by decide) h.2
  rcases hJ.2.1 with hu | ⟨u, hu, hj⟩
  · refine wpS_mono (r_heat0 hz hL hJ (nvO_A (LB_nv (τ := id) hL) hu) (d := 38)) (fun r M' h => ?_)
    obtain ⟨y, y1, y2⟩ := h
    exact ⟨y, y1, key M' y2⟩
  · refine wpS_mono (r_heat1 hz hL hJ hu (d := 36)) (fun r M' h => ?_)
    obtain ⟨y, y1, y2⟩ := h
    exact ⟨y, y1, key M' y2⟩

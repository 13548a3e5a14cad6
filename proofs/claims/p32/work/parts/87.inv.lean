/-! The loop's invariant: the memory by its regions, and what holds of the reference's drill and shop. -/
/-- regions of what the reference's shops are made of -/
def shR (r : Nat) : Bool := (Nat.beq r 12 || Nat.beq r 16) || ((Nat.ble 635 r && Nat.ble r 648) || ((Nat.ble 835 r && Nat.ble r 848) || (Nat.ble 900 r && Nat.ble r 905)))
def SG : List Nat := [12, 643]
def LB (b : Bool) (rg : Nat → Nat) (M : aM) : Prop := hT RR rg M ∧ (∀ a, a < 137 → rg a = rgP b a) ∧ (∀ a, 137 ≤ a → a < a_n M → shR (rg a) = true) ∧ sgl SG (a_n M) rg ∧ 137 ≤ a_n M ∧ (∀ q ∈ PT, a_P M q.1 q.2.1 = some q.2.2) ∧ a_P M 0 7 = some (bif b then 4 else 101) ∧ a_P M 1 1 = some (bif b then 101 else 4)
theorem g9_sh : ∀ r ∈ g9L, shR r = false := by decide
theorem LB_sgl {b : Bool} {rg : Nat → Nat} {M : aM} (h : LB b rg M) : sgl g9L (a_n M) rg := fun r hr o o' ho ho' e e' => by
  obtain ⟨_, h2, h3, _⟩ := h
  have key : ∀ x, x < a_n M → rg x = r → x = g9i r := fun x hx ex => by
    by_cases hl : x < 137
    · rw [h2 x hl] at ex
      exact g9_P b ⟨x, hl⟩ r hr ex
    · have := h3 x (by omega) hx
      rw [ex, g9_sh r hr] at this
      cases this
  rw [key o ho e, key o' ho' e']
def protB (b : Bool) (L : List (Nat × Nat)) : Bool := (PT.all (fun q => !msL L (rgP b q.1) (ysi RR (rgP b q.1) q.2.1))) && (!msL L 11 7 && !msL L 6 1)
theorem PT_lt : ∀ q ∈ PT, q.1 < 137 := by decide +kernel
theorem LB_fr {b : Bool} {rg : Nat → Nat} {M M' : aM} {L : List (Nat × Nat)} (h : LB b rg M) (h' : hT RR rg M') (hF : Fr RR (msL L) rg M M') (hp : protB b L = true) : LB b rg M' := by
  obtain ⟨h1, h2, h3, h4, h5, h6, h7, h8⟩ := h
  obtain ⟨p1, p2⟩ := (Bool.and_eq_true _ _).mp hp
  obtain ⟨p3, p4⟩ := (Bool.and_eq_true _ _).mp p2
  have hn : a_n M' = a_n M := hF.1.1
  refine ⟨h', h2, fun a h => by rw [hn]; exact h3 a h, by rw [hn]; exact h4, by rw [hn]; exact h5, fun q hq => ?_, ?_, ?_⟩
  · have := List.all_eq_true.mp p1 q hq
    rw [(hF.2.2.2 q.1 q.2.1 (by rw [h2 _ (PT_lt q hq)]; simpa using this)).2.2]
    exact h6 q hq
  · rw [(hF.2.2.2 0 7 (by rw [h2 0 (by omega), show rgP b 0 = 11 by cases b <;> rfl]; exact (show msL L 11 7 = false by simpa using p3))).2.2]
    exact h7
  · rw [(hF.2.2.2 1 1 (by rw [h2 1 (by omega), show rgP b 1 = 6 by cases b <;> rfl]; exact (show msL L 6 1 = false by simpa using p4))).2.2]
    exact h8
/-- the inches that the reference has drilled -/
def dnM (M : aM) : Int := (a_I M 115 7).toInt
/-- a shop that was read whole: its froms, their feeds -/
def JS (rg : Nat → Nat) (M : aM) (u : Nat) : Prop := u < a_n M ∧ rg u = 12 ∧ dnM M ≤ (a_I M u 0).toInt ∧ ∃ fr : Int, 1 ≤ fr ∧ fr ≤ 8 ∧ (a_I M u 12).toInt = fr ∧ ∀ w, w < a_n M → rg w = 643 → ∀ k, k < fr.toNat → 1 ≤ (a_I M w k).toInt ∧ (a_I M w k).toInt ≤ 9
def JB (M : aM) : Prop := ∀ k : Nat, (k : Int) < (a_I M 113 31).toInt → 1 ≤ (a_I M 127 k).toInt ∧ (a_I M 127 k).toInt ≤ dnM M - 2
def JM (rg : Nat → Nat) (M : aM) : Prop := (0 ≤ dnM M ∧ dnM M ≤ 30) ∧ (a_P M 113 3 = none ∨ ∃ u, a_P M 113 3 = some u ∧ JS rg M u) ∧ JB M
def protJ (L : List (Nat × Nat)) : Bool := (!msL L 13 3 && (!msL L 12 0 && !msL L 12 12)) && ((!msL L 643 0 && !msL L 687 0) && (!msL L 13 31 && !msL L 702 0))
theorem Fr_I {R : yR} {ms : Nat → Nat → Bool} {rg : Nat → Nat} {M M' : aM} (hF : Fr R ms rg M M') {a k r : Nat} (hr : rg a = r) (h : ms r (ysi R r k) = false) : a_I M' a k = a_I M a k := (hF.2.2.2 a k (by rw [hr]; exact h)).1
theorem Fr_P {R : yR} {ms : Nat → Nat → Bool} {rg : Nat → Nat} {M M' : aM} (hF : Fr R ms rg M M') {a k r : Nat} (hr : rg a = r) (h : ms r (ysi R r k) = false) : a_P M' a k = a_P M a k := (hF.2.2.2 a k (by rw [hr]; exact h)).2.2
theorem rg_at {b : Bool} {rg : Nat → Nat} {M : aM} (h : LB b rg M) {a r : Nat} (ha : a < 137) (e : ∀ b, rgP b a = r) : rg a = r := (h.2.1 a ha).trans (e b)
theorem bnot {x : Bool} (h : (!x) = true) : x = false := by cases x <;> simp_all
/-- the shop's facts stay where its slots do -/
theorem JS_fr {b : Bool} {rg : Nat → Nat} {M M' : aM} {ms : Nat → Nat → Bool} {u : Nat} (hF : Fr RR ms rg M M') (h : JS rg M u) (hd : dnM M' ≤ (a_I M u 0).toInt) (h0 : ms 12 0 = false) (h12 : ms 12 12 = false) (hf : ms 643 0 = false) : JS rg M' u := by
  obtain ⟨h1, h2, h3, fr, h4, h5, h6, h7⟩ := h
  have hn : a_n M' = a_n M := hF.1.1
  refine ⟨by rw [hn]; exact h1, h2, by rw [Fr_I hF h2 h0]; exact hd, fr, h4, h5, by rw [Fr_I hF h2 h12]; exact h6, fun w hw hr k hk => ?_⟩
  rw [Fr_I hF hr (show ms 643 0 = false from hf)]
  exact h7 w (by rw [← hn]; exact hw) hr k hk
theorem JM_fr {b : Bool} {rg : Nat → Nat} {M M' : aM} {L : List (Nat × Nat)} (hL : LB b rg M) (h : JM rg M) (hF : Fr RR (msL L) rg M M') (hp : protJ L = true) : JM rg M' := by
  obtain ⟨p1, p2⟩ := (Bool.and_eq_true _ _).mp hp
  obtain ⟨p3, p4⟩ := (Bool.and_eq_true _ _).mp p1
  obtain ⟨p5, p6⟩ := (Bool.and_eq_true _ _).mp p4
  obtain ⟨p7, p8⟩ := (Bool.and_eq_true _ _).mp p2
  obtain ⟨p9, p10⟩ := (Bool.and_eq_true _ _).mp p7
  obtain ⟨p11, p12⟩ := (Bool.and_eq_true _ _).mp p8
  have hd : dnM M' = dnM M := by
    unfold dnM
    rw [Fr_I hF (rg_at hL (a := 115) (by omega) (fun b => by cases b <;> rfl)) (show msL L 687 0 = false from bnot p10)]
  obtain ⟨j1, j2, j3⟩ := h
  refine ⟨by rw [hd]; exact j1, ?_, fun k hk => ?_⟩
  · rw [Fr_P hF (rg_at hL (a := 113) (by omega) (fun b => by cases b <;> rfl)) (show msL L 13 3 = false from bnot p3)]
    rcases j2 with j2 | ⟨u, u1, u2⟩
    · exact Or.inl j2
    · exact Or.inr ⟨u, u1, JS_fr (b := b) hF u2 (by rw [hd]; exact u2.2.2.1) (bnot p5) (bnot p6) (bnot p9)⟩
  · rw [Fr_I hF (rg_at hL (a := 113) (by omega) (fun b => by cases b <;> rfl)) (show msL L 13 31 = false from bnot p11)] at hk
    rw [hd, Fr_I hF (rg_at hL (a := 127) (by omega) (fun b => by cases b <;> rfl)) (show msL L 702 0 = false from bnot p12)]
    exact j3 k hk
/-! bores under the regions as they are -/
theorem RRf_K (fr : Int) : (RRf fr).1 = RR.1 := rfl
theorem ysi_f (fr : Int) (r k : Nat) : ysi (RRf fr) r k = ysi RR r k := rfl
theorem ysl_f {fr : Int} {r k : Nat} (h1 : r ≠ 643) (h2 : ¬ (r = 12 ∧ k = 12)) : ysl (RRf fr) r k = ysl RR r k := by
  unfold ysl
  rw [ysi_f]
  show (bif Nat.beq r 643 then _ else bif Nat.beq r 12 && Nat.beq (ysi RR r k) 12 then _ else _) = _
  rw [nbF h1]
  have : (Nat.beq r 12 && Nat.beq (ysi RR r k) 12) = false := by
    cases hb : Nat.beq r 12 with
    | false => rfl
    | true =>
      have e := nbT hb
      subst e
      rw [Bool.true_and]
      exact nbF (fun e => h2 ⟨rfl, e⟩)
  rw [this]
  rfl
theorem hT_f {rg : Nat → Nat} {M : aM} {u : Nat} (h : hT RR rg M) (hs : sgl SG (a_n M) rg) (hj : JS rg M u) : ∃ fr : Int, 1 ≤ fr ∧ fr ≤ 8 ∧ hT (RRf fr) rg M := by
  obtain ⟨h1, h2, h3, fr, h4, h5, h6, h7⟩ := hj
  refine ⟨fr, h4, h5, h.1, fun a ha => ?_⟩
  obtain ⟨q1, q2, q3⟩ := h.2 a ha
  refine ⟨q1, q2, fun k hk => ?_⟩
  by_cases e1 : rg a = 643
  · rw [e1] at hk ⊢
    have hk : k < fr.toNat := hk
    exact h7 a ha e1 k hk
  · have hk : k < RR.2.2.1 (rg a) := by
      have : (RRf fr).2.2.1 (rg a) = RR.2.2.1 (rg a) := by
        show (bif Nat.beq (rg a) 643 then _ else _) = _
        rw [nbF e1]
        rfl
      rw [← this]
      exact hk
    by_cases e2 : rg a = 12 ∧ k = 12
    · obtain ⟨e2, rfl⟩ := e2
      have : a = u := hs 12 List.mem_cons_self a u ha h1 e2 h2
      subst this
      rw [e2]
      exact ⟨by rw [h6]; exact Int.le_refl _, by rw [h6]; exact Int.le_refl _⟩
    · rw [ysl_f e1 e2]
      exact q3 k hk
/-- back again: of the feeds nothing has changed -/
theorem hT_g {fr : Int} {rg : Nat → Nat} {M M' : aM} {L : List (Nat × Nat)} (h : hT RR rg M) (h' : hT (RRf fr) rg M') (hF : Fr (RRf fr) (msL L) rg M M') (hl : (!msL L 643 0 && !msL L 12 12) = true) : hT RR rg M' := by
  obtain ⟨l1, l2⟩ := (Bool.and_eq_true _ _).mp hl
  have hn : a_n M' = a_n M := hF.1.1
  refine ⟨h'.1, fun a ha => ?_⟩
  obtain ⟨q1, q2, q3⟩ := h'.2 a ha
  obtain ⟨p1, p2, p3⟩ := h.2 a (by rw [← hn]; exact ha)
  refine ⟨q1, q2, fun k hk => ?_⟩
  rw [hn]
  by_cases e1 : rg a = 643
  · obtain ⟨z1, z2, z3⟩ := hF.2.2.2 a k (by rw [e1]; exact bnot l1)
    rw [z1, z3]
    exact p3 k hk
  · by_cases e2 : rg a = 12 ∧ k = 12
    · obtain ⟨z1, z2, z3⟩ := hF.2.2.2 a k (by rw [e2.1, e2.2]; exact bnot l2)
      rw [z1, z3]
      exact p3 k hk
    · have := q3 k (by
        show k < (bif Nat.beq (rg a) 643 then _ else _)
        rw [nbF e1]
        exact hk)
      rw [ysl_f e1 e2, hn] at this
      exact this
theorem fins_mono {cd : Nat → Nat → Option aI} {Q Q' : aQ} (h : ∀ r M, Q r M → Q' r M) : ∀ {fs : List aFr} {d : Nat} {r : Option aV} {M : aM}, fins cd fs d Q r M → fins cd fs d Q' r M
  | [], _, r, M, q => h r M q
  | (mid, pc, lo, st) :: fs, d, r, M, q => by
    have q : wp cd (d + 1) mid pc lo (psh r st) M (fins cd fs (d + 1) Q) := q
    exact wp_mono q (fun r' M' q' => fins_mono h (fs := fs) q')
theorem wpS_mono {cd : Nat → Nat → Option aI} {X : aSt} {Q Q' : aQ} (g : wpS cd X Q) (h : ∀ r M, Q r M → Q' r M) : wpS cd X Q' := wp_mono g (fun r M q => fins_mono h q)
/-- a contract that holds where the froms are told holds -/
theorem ctr_f {cd : Nat → Nat → Option aI} {rg : Nat → Nat} {M0 : aM} {ms : Nat → Nat → Bool} {c : yC} {u : Nat} (hs : sgl SG (a_n M0) rg) (hj : JS rg M0 u) (h0 : ms 12 0 = false) (h12 : ms 12 12 = false) (hf : ms 643 0 = false) (hl : (!msL c.2.2.1 643 0 && !msL c.2.2.1 12 12) = true) (hd : ms 687 0 = true) (h : ∀ fr : Int, 1 ≤ fr → fr ≤ 8 → ∀ M1, a_n M1 = a_n M0 → yCtr cd (RRf fr) rg M1 ms c) : yCtr cd RR rg M0 ms c := fun ρ τ X hF hg => by
  have hn : a_n X.2.2.2.2.2.2 = a_n M0 := hF.1.1
  obtain ⟨g1, g2, g3, g4, g5⟩ := hg
  -- the shop's facts but the inches
  obtain ⟨j1, j2, j3, fr, j4, j5, j6, j7⟩ := hj
  have hT1 : hT (RRf fr) rg X.2.2.2.2.2.2 := by
    refine ⟨g3.1.1, fun a ha => ?_⟩
    obtain ⟨q1, q2, q3⟩ := g3.1.2 a ha
    refine ⟨q1, q2, fun k hk => ?_⟩
    by_cases e1 : rg a = 643
    · rw [e1] at hk ⊢
      have hk : k < fr.toNat := hk
      rw [Fr_I hF e1 (show ms 643 0 = false from hf)]
      exact j7 a (by rw [← hn]; exact ha) e1 k hk
    · have hk : k < RR.2.2.1 (rg a) := by
        have : (RRf fr).2.2.1 (rg a) = RR.2.2.1 (rg a) := by
          show (bif Nat.beq (rg a) 643 then _ else _) = _
          rw [nbF e1]
          rfl
        rw [← this]
        exact hk
      by_cases e2 : rg a = 12 ∧ k = 12
      · obtain ⟨e2, rfl⟩ := e2
        have : a = u := hs 12 List.mem_cons_self a u (by rw [← hn]; exact ha) j1 e2 j2
        subst this
        rw [e2]
        have e3 : (a_I X.2.2.2.2.2.2 a 12).toInt = fr := by rw [Fr_I hF e2 (show ms 12 12 = false from h12)]; exact j6
        exact ⟨by rw [e3]; exact Int.le_refl _, by rw [e3]; exact Int.le_refl _⟩
      · rw [ysl_f e1 e2]
        exact q3 k hk
  refine wpS_mono (h fr j4 j5 X.2.2.2.2.2.2 hn ρ τ X Fr_rf ⟨g1, g2, ⟨hT1, g3.2⟩, g4, g5⟩) (fun r M' hq => ?_)
  obtain ⟨q1, q2, q3⟩ := hq
  exact ⟨hT_g g3.1 q1 q2 hl, q2, q3⟩

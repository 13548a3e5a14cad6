/-! The loop's invariant behind the reference's shop -/
def oldR (r : Nat) : Nat := bif Nat.beq (RR.1 r) 12 then 900 else bif Nat.beq (RR.1 r) 17 then 904 else bif Nat.beq (RR.1 r) 16 then 905 else bif Nat.beq (RR.2.1 r) 4 then 901 else bif Nat.beq (RR.2.1 r) 10 then 902 else 903
theorem old_ok : ∀ r : Fin 906, shR r.1 = false ∨ (RR.1 (oldR r.1) = RR.1 r.1 ∧ RR.2.1 (oldR r.1) = RR.2.1 r.1) := by decide +kernel
theorem old_W : ∀ r : Nat, RR.2.2.1 (oldR r) = 0 ∧ shR (oldR r) = true ∧ oldR r ≠ 12 ∧ oldR r ≠ 643 := fun r => by
  unfold oldR
  cases Nat.beq (RR.1 r) 12 <;> cases Nat.beq (RR.1 r) 17 <;> cases Nat.beq (RR.1 r) 16 <;> cases Nat.beq (RR.2.1 r) 4 <;> cases Nat.beq (RR.2.1 r) 10 <;> exact ⟨rfl, rfl, by decide, by decide⟩
theorem shR_906 {r : Nat} (hsh : shR r = true) : r < 906 := by
  unfold shR at hsh
  simp only [Bool.or_eq_true, Bool.and_eq_true] at hsh
  rcases hsh with (w | w) | (w | (w | w))
  · have := nbT w; omega
  · have := nbT w; omega
  · have := Nat.le_of_ble_eq_true w.2; omega
  · have := Nat.le_of_ble_eq_true w.2; omega
  · have := Nat.le_of_ble_eq_true w.2; omega
/-- the regions of a new shop's cells -/
def frR (i : Nat) : Nat := bif Nat.beq i 0 then 12 else 634 + i
theorem frR_ok : ∀ i : Fin 15, shR (frR i.1) = true ∧ (RR.1 (frR i.1) = (if i.1 = 0 then 12 else kdL (i.1 - 1)) ∧ RR.2.1 (frR i.1) = (if i.1 = 0 then 0 else lnL (i.1 - 1))) ∧ (i.1 = 0 ∨ frR i.1 ≠ 12) ∧ (i.1 = 9 ∨ frR i.1 ≠ 643) := by decide +kernel
def rgT (n0 : Nat) (rg : Nat → Nat) (a : Nat) : Nat := bif Nat.blt a 137 then rg a else bif Nat.blt a n0 then oldR (rg a) else frR (a - n0)
def rgG (n0 : Nat) (rg : Nat → Nat) (a : Nat) : Nat := bif Nat.blt a n0 then rg a else oldR (frR (a - n0))
theorem bltT {a b : Nat} (h : a < b) : Nat.blt a b = true := Nat.ble_eq.mpr h
theorem bltF {a b : Nat} (h : ¬ a < b) : Nat.blt a b = false := Bool.eq_false_iff.mpr (fun q => h (blt_lt q))
theorem rgT_lo {n0 : Nat} {rg : Nat → Nat} {a : Nat} (h : a < 137) : rgT n0 rg a = rg a := by unfold rgT; rw [bltT h]; rfl
theorem rgT_md {n0 : Nat} {rg : Nat → Nat} {a : Nat} (h : ¬ a < 137) (h' : a < n0) : rgT n0 rg a = oldR (rg a) := by unfold rgT; rw [bltF h, bltT h']; rfl
theorem rgT_hi {n0 : Nat} {rg : Nat → Nat} {a : Nat} (h : ¬ a < 137) (h' : ¬ a < n0) : rgT n0 rg a = frR (a - n0) := by unfold rgT; rw [bltF h, bltF h']; rfl
theorem rgG_lo {n0 : Nat} {rg : Nat → Nat} {a : Nat} (h : a < n0) : rgG n0 rg a = rg a := by unfold rgG; rw [bltT h]; rfl
theorem rgG_hi {n0 : Nat} {rg : Nat → Nat} {a : Nat} (h : ¬ a < n0) : rgG n0 rg a = oldR (frR (a - n0)) := by unfold rgG; rw [bltF h]; rfl
def zT (t : yT) : Bool := match t with
  | .inl q => decide (q.1 ≤ 0) && decide (0 ≤ q.2)
  | .inr _ => true
def nsT (t : yT) : Bool := match t with
  | .inr (.inr q) => !shR q.1
  | _ => true
def gA (a : Nat) : Bool := [113, 115, 131, 132, 135].any (Nat.beq a)
theorem st_A : ∀ b : Bool, ∀ a : Fin 137, ∀ i : Fin 50, gA a.1 = false ∨ (a.1 = 113 ∧ gSt a.1 i.1 = false) ∨ zT (RR.2.2.2 (rgP b a.1) i.1) = true ∨ RR.2.2.1 (rgP b a.1) ≤ i.1 := by decide +kernel
theorem st_R : ∀ b : Bool, ∀ a : Fin 137, ∀ i : Fin 50, nsT (RR.2.2.2 (rgP b a.1) i.1) = true ∨ (a.1 = 113 ∧ i.1 = 3) := by decide +kernel
theorem st_4 : ∀ b : Bool, RR.2.2.2 (rgP b 113) 4 = .inr (.inl ()) ∧ RR.2.2.2 (rgP b 113) 3 = .inr (.inr (12, true)) ∧ RR.1 (rgP b 113) = 13 := by decide +kernel
theorem st_P : ∀ q ∈ PT, ¬ (q.1 = 113 ∧ (q.2.1 = 3 ∨ q.2.1 = 4)) := by decide +kernel
theorem gSt_A {a k : Nat} (h : gA a = false) : gSt a k = false := by
  unfold gA at h
  simp only [List.any_cons, List.any_nil, Bool.or_eq_false_iff] at h
  obtain ⟨h1, h2, h3, h4, h5, _⟩ := h
  unfold gSt gSf
  simp only [List.any_cons, List.any_nil, h1, h2, h3, h4, h5, Bool.false_and, Bool.or_false]
theorem gSf_gSt {a k : Nat} (h : gSt a k = false) : gSf a k = false := (Bool.or_eq_false_iff.mp h).1
theorem FrG_w {n0 : Nat} {M M' : aM} (h : FrG gSf n0 M M') : FrG gSt n0 M M' := ⟨h.1, fun a k ha hg => h.2.1 a k ha (gSf_gSt hg), h.2.2⟩
/-- an old object's slots keep their types -/
theorem lo_ok {b : Bool} {rg rg' : Nat → Nat} {M M' : aM} {n0 n1 : Nat} (hL : LB b rg M) (hn : a_n M = n0) (hn1 : n0 ≤ n1) (hF : FrG gSt n0 M M') (hv : ∀ a k, a < 137 → k < RR.2.2.1 (rg a) → gSt a k = true → freeT (ysl RR (rg a) k) = true ∨ a_I M' a k = a_I M a k ∨ a_I M' a k = 0) (hr : ∀ o r, o < n0 → rg o = r → shR r = false → rg' o = r) (h3 : tyOk rg' n1 (.inr (.inr (12, true))) 0 (a_P M' 113 3)) {a : Nat} (ha : a < 137) {k : Nat} (hk : k < RR.2.2.1 (rg a)) : tyOk rg' n1 (ysl RR (rg a) k) (a_I M' a k) (a_P M' a k) := by
  obtain ⟨h1, h2, _, _, h5, _⟩ := hL
  have k3 := (h1.2 a (by omega)).2.2 k hk
  have e2 := h2 a ha
  rw [e2] at hk
  have hi50 : ysi RR (rgP b a) k < 50 ∧ ysi RR (rgP b a) k < RR.2.2.1 (rgP b a) ∧ (Nat.ble 14 (RR.1 (rgP b a)) = false → ysi RR (rgP b a) k = k) := by
    unfold ysi
    cases hb : Nat.ble 14 (RR.1 (rgP b a)) with
    | true => exact ⟨by show 0 < 50; omega, by show 0 < _; omega, fun q => by cases q⟩
    | false =>
      rcases W_50 b ⟨a, ha⟩ with q | q
      · simp only at q; rw [hb] at q; cases q
      · simp only at q; exact ⟨by show k < 50; omega, hk, fun _ => rfl⟩
  have hv := hv a k ha (by rw [e2]; exact hk)
  rw [e2] at k3 hv ⊢
  have k3 : tyOk rg (a_n M) (RR.2.2.2 (rgP b a) (ysi RR (rgP b a) k)) (a_I M a k) (a_P M a k) := k3
  have hv : gSt a k = true → freeT (RR.2.2.2 (rgP b a) (ysi RR (rgP b a) k)) = true ∨ a_I M' a k = a_I M a k ∨ a_I M' a k = 0 := hv
  show tyOk rg' n1 (RR.2.2.2 (rgP b a) (ysi RR (rgP b a) k)) (a_I M' a k) (a_P M' a k)
  obtain ⟨i1, i2, i3⟩ := hi50
  have hP9 : Nat.ble 14 (RR.1 (rgP b 113)) = false := by cases b <;> rfl
  generalize hii : ysi RR (rgP b a) k = i at i1 i2 i3 k3 hv ⊢
  have hA := st_A b ⟨a, ha⟩ ⟨i, i1⟩
  have hR := st_R b ⟨a, ha⟩ ⟨i, i1⟩
  simp only at hA hR
  cases ht : RR.2.2.2 (rgP b a) i with
  | inl q =>
    rw [ht] at k3 hA hv
    show q.1 ≤ (a_I M' a k).toInt ∧ (a_I M' a k).toInt ≤ q.2
    have k3 : q.1 ≤ (a_I M a k).toInt ∧ (a_I M a k).toInt ≤ q.2 := k3
    have same : a_I M' a k = a_I M a k → q.1 ≤ (a_I M' a k).toInt ∧ (a_I M' a k).toInt ≤ q.2 := fun e => by rw [e]; exact k3
    cases hg : gSt a k with
    | false => exact same (hF.2.1 a k (by omega) hg)
    | true =>
      rcases hv hg with f | e | e
      · exact free_ok (rg := rg) (n := 0) (p := none) (t := .inl q) f k3
      · exact same e
      · rcases hA with z | ⟨z1, z2⟩ | z | z
        · rw [gSt_A z] at hg; cases hg
        · subst z1
          rw [i3 hP9] at z2
          rw [z2] at hg; cases hg
        · obtain ⟨f1, f2⟩ := (Bool.and_eq_true _ _).mp z
          rw [e]
          exact ⟨of_decide_eq_true f1, of_decide_eq_true f2⟩
        · omega
  | inr q =>
    rcases q with q | q
    · exact True.intro
    · rw [ht] at k3 hR
      rcases hR with hR | ⟨z1, z2⟩
      · have hR : shR q.1 = false := by simpa [nsT] using hR
        have hne : ¬ (a = 113 ∧ (k = 3 ∨ k = 4)) := fun w => by
          obtain ⟨w1, w2⟩ := w
          subst w1
          have := i3 hP9
          subst this
          rcases w2 with w2 | w2
          · subst w2; rw [(st_4 b).2.1] at ht; cases ht; cases hR
          · subst w2; rw [(st_4 b).1] at ht; cases ht
        rw [hF.2.2.2 a k (by omega) hne]
        revert k3
        cases a_P M a k with
        | none => exact fun k3 => k3
        | some o => exact fun k3 => ⟨by have := k3.1; omega, hr o q.1 (by have := k3.1; omega) k3.2 hR⟩
      · subst z1
        have := i3 hP9
        subst this
        subst z2
        rw [(st_4 b).2.1] at ht
        cases ht
        exact h3
theorem kd_fr {n0 i : Nat} {M M' : aM} (hN : NwF n0 M M') (hi : i < 15) : a_K M' (n0 + i) = RR.1 (frR i) ∧ a_N M' (n0 + i) = RR.2.1 (frR i) := by
  obtain ⟨_, ⟨f1, f2⟩, _⟩ := frR_ok ⟨i, hi⟩
  simp only at f1 f2
  rw [f1, f2]
  by_cases e : i = 0
  · subst e; exact hN.2.1
  · rw [if_neg e, if_neg e]
    obtain ⟨q1, q2, _⟩ := hN.2.2 (i - 1) (by omega)
    rw [show n0 + 1 + (i - 1) = n0 + i by omega] at q1 q2
    exact ⟨q1, q2⟩
theorem LB_shF {b : Bool} {rg : Nat → Nat} {M M' : aM} {n0 : Nat} (hL : LB b rg M) (hn : a_n M = n0) (hb : n0 + 60 < aSB) (hN : NwF n0 M M') (h6 : a_I M' 113 6 = 0) (hF : FrG gSf n0 M M') (h3 : a_P M' 113 3 = a_P M 113 3) : LB b (rgG n0 rg) M' := by
  have hL0 := hL
  obtain ⟨g1, g2, g3, g4, g5, g6, g7, g8⟩ := hL
  obtain ⟨n1, _, _⟩ := hN.1
  have hr : ∀ o r, o < n0 → rg o = r → shR r = false → rgG n0 rg o = r := fun o r ho e _ => (rgG_lo ho).trans e
  have h13 : a_P M 113 3 = none ∨ ∃ u, a_P M 113 3 = some u ∧ u < n0 ∧ rg u = 12 := by
    have := (g1.2 113 (by omega)).2.2 3 (by rw [g2 113 (by omega)]; cases b <;> decide)
    rw [g2 113 (by omega)] at this
    rw [show ysl RR (rgP b 113) 3 = .inr (.inr (12, true)) by cases b <;> rfl] at this
    revert this
    cases a_P M 113 3 with
    | none => exact fun _ => Or.inl rfl
    | some u => exact fun h => Or.inr ⟨u, rfl, by have := h.1; omega, h.2⟩
  have h39 : tyOk (rgG n0 rg) (n0 + 15) (.inr (.inr (12, true))) 0 (a_P M' 113 3) := by
    rw [h3]
    rcases h13 with e | ⟨u, e, u1, u2⟩
    · rw [e]; rfl
    · rw [e]; exact ⟨by omega, (rgG_lo u1).trans u2⟩
  refine ⟨⟨by omega, fun a ha => ?_⟩, fun a ha => (rgG_lo (by omega)).trans (g2 a ha), fun a ha hb9 => ?_, ?_, by omega, fun q hq => ?_, ?_, ?_⟩
  · rw [n1] at ha ⊢
    by_cases e : a < n0
    · rw [rgG_lo e]
      obtain ⟨k1, k2, k3⟩ := g1.2 a (by omega)
      obtain ⟨f1, f2⟩ := hF.1 a e
      refine ⟨f1.trans k1, f2.trans k2, fun k hk => ?_⟩
      by_cases e1 : a < 137
      · refine lo_ok hL0 hn (by omega) (FrG_w hF) (fun a k ha hk hg => ?_) hr h39 e1 hk
        cases hgf : gSf a k with
        | false => exact Or.inr (Or.inl (hF.2.1 a k (by omega) hgf))
        | true =>
          obtain ⟨w1, w2⟩ := (Bool.and_eq_true _ _).mp hgf
          have w1 : a = 113 := nbT w1
          subst w1
          by_cases e6 : k = 6
          · subst e6; exact Or.inr (Or.inr h6)
          · refine Or.inl ?_
            rw [g2 113 (by omega)]
            have : ∀ b : Bool, ∀ k : Fin 15, (Nat.ble k.1 2 || (Nat.ble 6 k.1 && Nat.ble k.1 14)) = false ∨ k.1 = 6 ∨ freeT (ysl RR (rgP b 113) k.1) = true := by decide +kernel
            have hk15 : k < 15 := by
              rcases (Bool.or_eq_true _ _).mp w2 with w | w
              · have := Nat.le_of_ble_eq_true w; omega
              · have := Nat.le_of_ble_eq_true ((Bool.and_eq_true _ _).mp w).2; omega
            rcases this b ⟨k, hk15⟩ with q | q | q
            · simp only at q; rw [w2] at q; cases q
            · exact absurd q e6
            · exact q
      · have hP9 : a_P M' a k = a_P M a k := hF.2.2.2 a k e (by omega)
        have hI9 : a_I M' a k = a_I M a k := hF.2.1 a k e (by unfold gSf; rw [nbF (show a ≠ 113 by omega)]; rfl)
        rw [hP9, hI9]
        have k3 := k3 k hk
        revert k3
        cases ysl RR (rg a) k with
        | inl q => exact fun k3 => k3
        | inr q =>
          rcases q with q | q
          · exact fun _ => True.intro
          · cases a_P M a k with
            | none => exact fun k3 => k3
            | some o => exact fun k3 => ⟨by have := k3.1; omega, (rgG_lo (by have := k3.1; omega)).trans k3.2⟩
    · rw [rgG_hi e]
      obtain ⟨i, rfl⟩ : ∃ i, a = n0 + i := ⟨a - n0, by omega⟩
      rw [show n0 + i - n0 = i by omega]
      obtain ⟨q1, q2⟩ := kd_fr hN (i := i) (by omega)
      obtain ⟨f1, _⟩ := frR_ok ⟨i, by omega⟩
      simp only at f1
      obtain ⟨o1, o2⟩ : RR.1 (oldR (frR i)) = RR.1 (frR i) ∧ RR.2.1 (oldR (frR i)) = RR.2.1 (frR i) := by
        rcases old_ok ⟨frR i, shR_906 f1⟩ with w | w
        · simp only at w; rw [f1] at w; cases w
        · exact w
      refine ⟨by rw [q1, o1], by rw [q2, o2], fun k hk => ?_⟩
      rw [(old_W _).1] at hk
      omega
  · rw [n1] at hb9
    by_cases e : a < n0
    · rw [rgG_lo e]; exact g3 a ha (by omega)
    · rw [rgG_hi e]; exact (old_W _).2.1
  · intro r hr9 o o' ho ho' e1 e2
    have key : ∀ x, rgG n0 rg x = r → x < n0 ∧ rg x = r := fun x ex => by
      by_cases e : x < n0
      · exact ⟨e, by rw [rgG_lo e] at ex; exact ex⟩
      · rw [rgG_hi e] at ex
        rcases List.mem_cons.mp hr9 with w | w
        · exact absurd (ex.trans w) (old_W _).2.2.1
        · exact absurd (ex.trans (List.mem_singleton.mp w)) (old_W _).2.2.2
    exact g4 r hr9 o o' (by have := (key o e1).1; omega) (by have := (key o' e2).1; omega) (key o e1).2 (key o' e2).2
  · rw [hF.2.2.2 q.1 q.2.1 (by have := PT_lt q hq; omega) (st_P q hq)]; exact g6 q hq
  · rw [hF.2.2.2 0 7 (by omega) (by decide)]; exact g7
  · rw [hF.2.2.2 1 1 (by omega) (by decide)]; exact g8
theorem JM_shF {b : Bool} {rg : Nat → Nat} {M M' : aM} {n0 : Nat} (hL : LB b rg M) (hJ : JM rg M) (hn : a_n M = n0) (hN : NwF n0 M M') (hF : FrG gSf n0 M M') (h3 : a_P M' 113 3 = a_P M 113 3) : JM (rgG n0 rg) M' := by
  obtain ⟨j1, j2, j3⟩ := hJ
  have h5 := hL.2.2.2.2.1
  have hd : dnM M' = dnM M := by unfold dnM; rw [hF.2.1 115 7 (by omega) rfl]
  refine ⟨by rw [hd]; exact j1, ?_, fun k hk => ?_⟩
  · rw [h3]
    rcases j2 with e | ⟨u, e, u1, u2, u3, fr, u4, u5, u6, u7⟩
    · exact Or.inl e
    · have hu : u ≠ 113 := fun e => by
        rw [e, hL.2.1 113 (by omega)] at u2
        revert u2; cases b <;> decide
      have hI9 : ∀ a k, a < n0 → a ≠ 113 → a_I M' a k = a_I M a k := fun a k ha e => hF.2.1 a k ha (by unfold gSf; rw [nbF e]; rfl)
      refine Or.inr ⟨u, e, by rw [hN.1.1]; omega, (rgG_lo (by omega)).trans u2, by rw [hd, hI9 u 0 (by omega) hu]; exact u3, fr, u4, u5, by rw [hI9 u 12 (by omega) hu]; exact u6, fun w hw hr k hk => ?_⟩
      by_cases e9 : w < n0
      · rw [rgG_lo e9] at hr
        have hw9 : w ≠ 113 := fun e => by
          rw [e, hL.2.1 113 (by omega)] at hr
          revert hr; cases b <;> decide
        rw [hI9 w k e9 hw9]
        exact u7 w (by omega) hr k hk
      · rw [rgG_hi e9] at hr
        exact absurd hr (old_W _).2.2.2
  · rw [hF.2.1 113 31 (by omega) rfl] at hk
    rw [hd, hF.2.1 127 k (by omega) (by unfold gSf; rfl)]
    exact j3 k hk

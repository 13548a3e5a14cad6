/-! The loop's invariant behind the exchange of the class's shops -/
def chR (r : Nat) : Bool := ((Nat.beq r 8 || Nat.beq r 14) || (Nat.beq r 5 || Nat.beq r 15)) || (((Nat.ble 270 r && Nat.ble r 273) || (Nat.ble 432 r && Nat.ble r 437)) || ((Nat.ble 732 r && Nat.ble r 737) || (Nat.ble 770 r && Nat.ble r 773)))
def rfT (t : yT) : Bool := match t with
  | .inr (.inr q) => chR q.1
  | _ => false
theorem ch_A : ∀ b : Bool, ∀ a : Fin 137, rgP b a.1 = rgP (!b) a.1 ∨ chR (rgP b a.1) = true := by decide +kernel
theorem ch_K : ∀ b : Bool, ∀ a : Fin 137, RR.1 (rgP b a.1) = RR.1 (rgP (!b) a.1) ∧ RR.2.1 (rgP b a.1) = RR.2.1 (rgP (!b) a.1) ∧ RR.2.2.1 (rgP b a.1) = RR.2.2.1 (rgP (!b) a.1) := by decide +kernel
theorem ch_B : ∀ r : Fin 906, shR r.1 = false ∨ (rT r.1).all (fun t => !rfT t) = true := by decide +kernel
theorem ch_S : ∀ b : Bool, ∀ a : Fin 137, ∀ r ∈ SG, rgP b a.1 ≠ r := by decide +kernel
def sameT (t t' : yT) : Bool := match t, t' with
  | .inl q, .inl w => decide (q.1 = w.1) && decide (q.2 = w.2)
  | _, _ => false
def okT (b : Bool) (a i : Nat) : Bool := match RR.2.2.2 (rgP (!b) a) i with
  | .inl q => (decide (q.1 ≤ -2147483648) && decide (2147483647 ≤ q.2)) || (sameT (RR.2.2.2 (rgP b a) i) (.inl q) || (Nat.beq a (tld b) && (Nat.beq i 0 && (decide (q.1 = 0) && decide (q.2 = 30)))))
  | .inr (.inl _) => true
  | .inr (.inr q) => (Nat.beq (rgP b a) (rgP (!b) a) && !chR q.1) || (Nat.blt (RR.1 (rgP b a)) 14 && (PT.any (fun w => Nat.beq w.1 a && (Nat.beq w.2.1 i && Nat.beq (rgP (!b) w.2.2) q.1)) || ((Nat.beq a 1 && (Nat.beq i 1 && Nat.beq q.1 (rgP (!b) (cur b)))) || (Nat.beq a 0 && (Nat.beq i 7 && Nat.beq q.1 (rgP (!b) (tld b)))))))
theorem ok_A : ∀ b : Bool, ∀ a : Fin 137, ∀ i : Fin 50, okT b a.1 i.1 = true ∨ RR.2.2.1 (rgP b a.1) ≤ i.1 := by decide +kernel
theorem W_50 : ∀ b : Bool, ∀ a : Fin 137, Nat.ble 14 (RR.1 (rgP b a.1)) = true ∨ RR.2.2.1 (rgP b a.1) ≤ 50 := by decide +kernel
theorem PT_x9 : ∀ q ∈ PT, q.2.2 < 137 ∧ ¬ (q.1 = 1 ∧ q.2.1 = 1) ∧ ¬ (q.1 = 0 ∧ q.2.1 = 7) := by decide +kernel
def rgX (b : Bool) (rg : Nat → Nat) (a : Nat) : Nat := bif Nat.blt a 137 then rgP (!b) a else rg a
theorem rgX_lo {b : Bool} {rg : Nat → Nat} {a : Nat} (h : a < 137) : rgX b rg a = rgP (!b) a := by
  unfold rgX; rw [show Nat.blt a 137 = true from Nat.ble_eq.mpr h]; rfl
theorem rgX_hi {b : Bool} {rg : Nat → Nat} {a : Nat} (h : ¬ a < 137) : rgX b rg a = rg a := by
  unfold rgX; rw [show Nat.blt a 137 = false from Bool.eq_false_iff.mpr (fun q => h (blt_lt q))]; rfl
/-- a reference that is no shop's keeps its region -/
theorem rgX_o {b : Bool} {rg : Nat → Nat} {o r : Nat} (h2 : ∀ a, a < 137 → rg a = rgP b a) (hc : chR r = false) (h : rg o = r) : rgX b rg o = r := by
  by_cases e : o < 137
  · rw [rgX_lo e]
    rw [h2 o e] at h
    rcases ch_A b ⟨o, e⟩ with q | q
    · exact q.symm.trans h
    · simp only at q; rw [h, hc] at q; cases q
  · rw [rgX_hi e]; exact h
theorem ref_keep {b : Bool} {rg : Nat → Nat} {n : Nat} {q : Nat × Bool} {x y : Int32} {p : Option Nat} (h2 : ∀ a, a < 137 → rg a = rgP b a) (hc : chR q.1 = false) (h : tyOk rg n (.inr (.inr q)) x p) : tyOk (rgX b rg) n (.inr (.inr q)) y p := by
  rcases p with _ | o
  · exact h
  · exact ⟨h.1, rgX_o h2 hc h.2⟩
theorem LB_x {b : Bool} {rg : Nat → Nat} {M : aM} (hL : LB b rg M) (hi0 : 0 ≤ (a_I M (tld b) 0).toInt ∧ (a_I M (tld b) 0).toInt ≤ 30) : LB (!b) (rgX b rg) (s_P (s_P M 1 1 (some (cur b))) 0 7 (some (tld b))) := by
  obtain ⟨h1, h2, h3, h4, h5, h6, h7, h8⟩ := hL
  have hP : ∀ a k, ¬ (a = 0 ∧ k = 7) → ¬ (a = 1 ∧ k = 1) → a_P (s_P (s_P M 1 1 (some (cur b))) 0 7 (some (tld b))) a k = a_P M a k := fun a k e1 e2 => by rw [aP_sP, if_neg e1, aP_sP, if_neg e2]
  have hP7 : a_P (s_P (s_P M 1 1 (some (cur b))) 0 7 (some (tld b))) 0 7 = some (tld b) := by rw [aP_sP, if_pos ⟨rfl, rfl⟩]
  have hP1 : a_P (s_P (s_P M 1 1 (some (cur b))) 0 7 (some (tld b))) 1 1 = some (cur b) := by rw [aP_sP, if_neg (by decide), aP_sP, if_pos ⟨rfl, rfl⟩]
  have hcu : cur b < 137 := by cases b <;> decide
  have htl : tld b < 137 := by cases b <;> decide
  refine ⟨⟨h1.1, fun a ha => ?_⟩, fun a ha => rgX_lo ha, fun a ha hb => by rw [rgX_hi (by omega)]; exact h3 a ha hb, ?_, h5, fun q hq => ?_, ?_, ?_⟩
  · obtain ⟨k1, k2, k3⟩ := h1.2 a ha
    by_cases e : a < 137
    · rw [rgX_lo e]
      obtain ⟨c1, c2, c3⟩ := ch_K b ⟨a, e⟩
      simp only at c1 c2 c3
      rw [h2 a e] at k1 k2 k3
      refine ⟨k1.trans c1, k2.trans c2, fun k hk => ?_⟩
      rw [← c3] at hk
      have k3 := k3 k hk
      have hi : ysi RR (rgP (!b) a) k = ysi RR (rgP b a) k := by unfold ysi; rw [c1]
      have hi50 : ysi RR (rgP b a) k < 50 ∧ ysi RR (rgP b a) k < RR.2.2.1 (rgP b a) ∧ (Nat.blt (RR.1 (rgP b a)) 14 = true → ysi RR (rgP b a) k = k) := by
        unfold ysi
        cases hb : Nat.ble 14 (RR.1 (rgP b a)) with
        | true => exact ⟨by show 0 < 50; omega, by show 0 < _; omega, fun q => by have := blt_lt q; have := Nat.le_of_ble_eq_true hb; omega⟩
        | false =>
          rcases W_50 b ⟨a, e⟩ with q | q
          · simp only at q; rw [hb] at q; cases q
          · simp only at q; exact ⟨by show k < 50; omega, hk, fun _ => rfl⟩
      obtain ⟨i1, i2, i3⟩ := hi50
      show tyOk (rgX b rg) (a_n M) (RR.2.2.2 (rgP (!b) a) (ysi RR (rgP (!b) a) k)) (a_I M a k) _
      have k3 : tyOk rg (a_n M) (RR.2.2.2 (rgP b a) (ysi RR (rgP b a) k)) (a_I M a k) (a_P M a k) := k3
      rw [hi]
      generalize hii : ysi RR (rgP b a) k = i at i1 i2 i3 k3 ⊢
      have ho : okT b a i = true := by
        rcases ok_A b ⟨a, e⟩ ⟨i, i1⟩ with q | q
        · exact q
        · simp only at q; omega
      unfold okT at ho
      cases ht : RR.2.2.2 (rgP (!b) a) i with
      | inl q =>
        rw [ht] at ho
        rcases (Bool.or_eq_true _ _).mp ho with o1 | o1
        · obtain ⟨f1, f2⟩ := (Bool.and_eq_true _ _).mp o1
          have f1 := of_decide_eq_true f1
          have f2 := of_decide_eq_true f2
          have e1 := Int32.le_toInt (a_I M a k)
          have e2 := Int32.toInt_lt (a_I M a k)
          show q.1 ≤ _ ∧ _ ≤ q.2
          omega
        · rcases (Bool.or_eq_true _ _).mp o1 with o2 | o2
          · cases hs : RR.2.2.2 (rgP b a) i with
            | inl w =>
              rw [hs] at o2 k3
              obtain ⟨f1, f2⟩ := (Bool.and_eq_true _ _).mp o2
              have f1 := of_decide_eq_true f1
              have f2 := of_decide_eq_true f2
              have k3 : w.1 ≤ (a_I M a k).toInt ∧ (a_I M a k).toInt ≤ w.2 := k3
              show q.1 ≤ _ ∧ _ ≤ q.2
              omega
            | inr w => rw [hs] at o2; cases o2
          · obtain ⟨f1, f2⟩ := (Bool.and_eq_true _ _).mp o2
            obtain ⟨f3, f4⟩ := (Bool.and_eq_true _ _).mp f2
            obtain ⟨f5, f6⟩ := (Bool.and_eq_true _ _).mp f4
            have f5 := of_decide_eq_true f5
            have f6 := of_decide_eq_true f6
            have hk0 : k = 0 := by
              have hz : i = 0 := nbT f3
              have : Nat.blt (RR.1 (rgP b a)) 14 = true := by rw [nbT f1]; cases b <;> rfl
              have := i3 this
              omega
            show q.1 ≤ _ ∧ _ ≤ q.2
            rw [f5, f6, nbT f1, hk0]
            exact hi0
      | inr q =>
        rcases q with q | q
        · exact True.intro
        · rw [ht] at ho
          rcases (Bool.or_eq_true _ _).mp ho with o1 | o1
          · obtain ⟨f1, f2⟩ := (Bool.and_eq_true _ _).mp o1
            have hc : chR q.1 = false := by simpa using f2
            have hs : RR.2.2.2 (rgP b a) i = .inr (.inr q) := by rw [nbT f1]; exact ht
            rw [hs] at k3
            have hne : ¬ (a = 0 ∧ k = 7) ∧ ¬ (a = 1 ∧ k = 1) := by
              constructor
              · intro w
                obtain ⟨w1, w2⟩ := w
                subst w1
                subst w2
                have : i = 7 := by rw [← hii]; cases b <;> rfl
                subst this
                rw [show RR.2.2.2 (rgP (!b) 0) 7 = .inr (.inr (8, false)) by cases b <;> rfl] at ht
                cases ht
                cases hc
              · intro w
                obtain ⟨w1, w2⟩ := w
                subst w1
                subst w2
                have : i = 1 := by rw [← hii]; cases b <;> rfl
                subst this
                rw [show RR.2.2.2 (rgP (!b) 1) 1 = .inr (.inr (14, false)) by cases b <;> rfl] at ht
                cases ht
                cases hc
            rw [hP a k hne.1 hne.2]
            exact ref_keep h2 hc k3
          · obtain ⟨f0, o1⟩ := (Bool.and_eq_true _ _).mp o1
            have hik := i3 f0
            subst hik
            rcases (Bool.or_eq_true _ _).mp o1 with o2 | o2
            · obtain ⟨w, w1, w2⟩ := List.any_eq_true.mp o2
              obtain ⟨w3, w4⟩ := (Bool.and_eq_true _ _).mp w2
              obtain ⟨w5, w6⟩ := (Bool.and_eq_true _ _).mp w4
              obtain ⟨p1, p2, p3⟩ := PT_x9 w w1
              have hw := h6 w w1
              have a1 : w.1 = a := nbT w3
              have a2 : w.2.1 = i := nbT w5
              rw [a1, a2] at p2 p3 hw
              rw [hP a i p3 p2, hw]
              exact ⟨by omega, by rw [rgX_lo p1]; exact nbT w6⟩
            · rcases (Bool.or_eq_true _ _).mp o2 with o3 | o3
              · obtain ⟨f1, f2⟩ := (Bool.and_eq_true _ _).mp o3
                obtain ⟨f3, f4⟩ := (Bool.and_eq_true _ _).mp f2
                rw [nbT f1, nbT f3, hP1]
                exact ⟨by omega, by rw [rgX_lo hcu]; exact (nbT f4).symm⟩
              · obtain ⟨f1, f2⟩ := (Bool.and_eq_true _ _).mp o3
                obtain ⟨f3, f4⟩ := (Bool.and_eq_true _ _).mp f2
                rw [nbT f1, nbT f3, hP7]
                exact ⟨by omega, by rw [rgX_lo htl]; exact (nbT f4).symm⟩
    · rw [rgX_hi e]
      refine ⟨k1, k2, fun k hk => ?_⟩
      have k3 := k3 k hk
      rw [hP a k (by omega) (by omega)]
      have hsh := h3 a (by omega) ha
      show tyOk (rgX b rg) (a_n M) (ysl RR (rg a) k) (a_I M a k) (a_P M a k)
      have h906 : rg a < 906 := by
        unfold shR at hsh
        simp only [Bool.or_eq_true, Bool.and_eq_true] at hsh
        rcases hsh with (w | w) | (w | (w | w))
        · have := nbT w; omega
        · have := nbT w; omega
        · have := Nat.le_of_ble_eq_true w.2; omega
        · have := Nat.le_of_ble_eq_true w.2; omega
        · have := Nat.le_of_ble_eq_true w.2; omega
      have hall : (rT (rg a)).all (fun t => !rfT t) = true := by
        rcases ch_B ⟨rg a, h906⟩ with w | w
        · simp only at w; rw [hsh] at w; cases w
        · exact w
      have hrf : rfT (ysl RR (rg a) k) = false := by
        show rfT ((rT (rg a)).getD (ysi RR (rg a) k) (.inr (.inl ()))) = false
        rw [List.getD_eq_getElem?_getD]
        cases hg : (rT (rg a))[ysi RR (rg a) k]? with
        | none => rfl
        | some t => exact by simpa using List.all_eq_true.mp hall t (List.mem_of_getElem? hg)
      cases ht : ysl RR (rg a) k with
      | inl q => rw [ht] at k3; exact k3
      | inr q =>
        rcases q with q | q
        · exact True.intro
        · rw [ht] at k3 hrf
          exact ref_keep h2 hrf k3
  · intro r hr o o' ho ho' e1 e2
    by_cases w : o < 137
    · rw [rgX_lo w] at e1; exact absurd e1 (ch_S (!b) ⟨o, w⟩ r hr)
    · by_cases w' : o' < 137
      · rw [rgX_lo w'] at e2; exact absurd e2 (ch_S (!b) ⟨o', w'⟩ r hr)
      · rw [rgX_hi w] at e1
        rw [rgX_hi w'] at e2
        exact h4 r hr o o' ho ho' e1 e2
  · obtain ⟨_, p2, p3⟩ := PT_x9 q hq
    rw [hP q.1 q.2.1 p3 p2]
    exact h6 q hq
  · rw [hP7]; cases b <;> rfl
  · rw [hP1]; cases b <;> rfl

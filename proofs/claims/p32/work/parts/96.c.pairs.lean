/-! felt, forget, wall, clear, lies, next over the strong invariant: printed by wip/gen/pairs.py -/
theorem InR_u {b : Bool} {M : aM} {x : Int32} (h : R2 b M) : InR (a_I M 0 8) (a_I M (cur b) 0).toInt x ↔ ∃ u, a_P M 113 3 = some u ∧ 0 ≤ x.toInt ∧ x.toInt < (a_I M u 0).toInt := by
  rcases h with ⟨h1, h2⟩ | ⟨h1, u, h2, h3, _⟩
  · exact ⟨fun q => absurd h1 q.1, fun ⟨u, q, _⟩ => by rw [h2] at q; cases q⟩
  · refine ⟨fun q => ⟨u, h2, by rw [← h3]; exact q.2⟩, fun ⟨v, q1, q2⟩ => ⟨by rw [h1]; decide, ?_⟩⟩
    rw [h2] at q1
    cases q1
    rw [h3]
    exact q2
/-! felt -/
def FlG (M : aM) (x1 x2 : Int32) : Prop := (∃ u, a_P M 113 3 = some u ∧ 0 ≤ x1.toInt ∧ x1.toInt < (a_I M u 0).toInt) ∧ (0 ≤ x2.toInt ∧ x2.toInt ≤ 9999) ∧ (a_I M 113 28).toInt < 12
def FE (q : Nat) (x1 x2 : Int32) (M : aM) (x : Int32) : Prop := ∃ b rg, LB b rg M ∧ JM rg M ∧ Rm q M ∧ (RnA b M ∧ R6 M ∧ R7 b M) ∧ a_I M 0 9 ≠ 4 ∧ ((FlG M x1 x2 ∧ a_I M 52 4 = a_I M 113 28 + 1 ∧ x = a_I M 113 28 + 1) ∨ (¬ FlG M x1 x2 ∧ a_I M 52 4 = a_I M 113 28 ∧ x = -1))
theorem FlG_fr {b : Bool} {rg : Nat → Nat} {M M' : aM} {L : List (Nat × Nat)} (hL : LB b rg M) (hJ : JM rg M) (hF : Fr RR (msL L) rg M M') (p : nL [(13, 3), (12, 0), (13, 28)] L = true) (x1 x2 : Int32) : FlG M' x1 x2 ↔ FlG M x1 x2 := by
  unfold FlG
  rw [Fr_P hF (rg_at hL (a := 113) (by omega) (fun b => by cases b <;> rfl)) (show msL L 13 3 = false from nL_at p (by decide)), Fr_I hF (rg_at hL (a := 113) (by omega) (fun b => by cases b <;> rfl)) (show msL L 13 28 = false from nL_at p (by decide))]
  have e : ∀ u, a_P M 113 3 = some u → a_I M' u 0 = a_I M u 0 := fun u hu => Fr_I hF (JM_u hJ hu).2.1 (show msL L 12 0 = false from nL_at p (by decide))
  constructor
  · rintro ⟨⟨u, h1, h2⟩, h3⟩
    exact ⟨⟨u, h1, by rw [← e u h1]; exact h2⟩, h3⟩
  · rintro ⟨⟨u, h1, h2⟩, h3⟩
    exact ⟨⟨u, h1, by rw [e u h1]; exact h2⟩, h3⟩
theorem LB_52 {b : Bool} {rg : Nat → Nat} {M : aM} (hL : LB b rg M) : 0 ≤ (a_I M 52 4).toInt ∧ (a_I M 52 4).toInt ≤ 12 := LB_ty hL (by decide) (by cases b <;> rfl) (by cases b <;> rfl)
theorem LB_28 {b : Bool} {rg : Nat → Nat} {M : aM} (hL : LB b rg M) : 0 ≤ (a_I M 113 28).toInt ∧ (a_I M 113 28).toInt ≤ 12 := LB_ty hL (by decide) (by cases b <;> rfl) (by cases b <;> rfl)
theorem xw_felt {cd : Nat → Nat → Option aI} {z : Bool} (hz : ∀ m p i, cd0 z m p = some i → cd m p = some i) {q : Nat} {M : aM} (hI : LZ q M) (x1 x2 : Int32) : wpS cd (39, [], 118, 0, la 0 [.inr (.inr (some 0)), .inl x1, .inl x2], [], M) (fun r M' => ∃ x, r = some (.inl x) ∧ FE q x1 x2 M' x) := by
  have hct := hc_of hz
  obtain ⟨b, rg, hL, hJ, hr, ⟨hA, h5, h6, h7⟩, hW⟩ := hI
  refine wpS_mono (wpS_and (cf_felt hz hL x1 x2 (LB_52 hL).1 (d := 38)) (oXfelt hct hL x1 x2 (d := 39) (by omega))) (fun r M' h => ?_)
  obtain ⟨⟨y, y1, y2⟩, h⟩ := h
  have hg := FlG_fr hL hJ h.2.1 (by decide) x1 x2
  have e28 : a_I M' 113 28 = a_I M 113 28 := Fr_I h.2.1 (rg_at hL (a := 113) (by omega) (fun b => by cases b <;> rfl)) rfl
  have e5 : a_I M 52 4 = a_I M 113 28 := h5
  have hi := InR_u (x := x1) hA.2.1
  refine ⟨y, y1, b, rg, LB_fr hL h.1 h.2.1 (oXfelt_p b), JM_fr hL hJ h.2.1 oXfelt_j, Rm_e hr h.2.1.1, ⟨RnA_fr hL hJ h.2.1 (by decide) hA, R6_fr hL h.2.1 (by decide) h6, R7_fr hL h.2.1 (by decide) h7⟩, sX_ok hL (by decide) h, ?_⟩
  rw [hg, e28, ← e5]
  rcases y2 with ⟨g1, g2, g3⟩ | ⟨g1, g2, g3⟩
  · exact Or.inl ⟨⟨hi.mp g1.1, g1.2.1, by rw [← e5]; exact g1.2.2⟩, g3, g2⟩
  · exact Or.inr ⟨fun w => g1 ⟨hi.mpr w.1, w.2.1, by rw [e5]; exact w.2.2⟩, g3, g2⟩
theorem mw_felt {cd : Nat → Nat → Option aI} {z : Bool} (hz : ∀ m p i, cd0 z m p = some i → cd m p = some i) {q : Nat} {M : aM} {x : Int32} (x1 x2 : Int32) (hI : FE q x1 x2 M x) : wpS cd (39, [], 207, 0, la 0 [.inr (.inr (some 113)), .inl x1, .inl x2], [], M) (fun r M' => ∃ y, r = some (.inl y) ∧ x = y ∧ LZ q M') := by
  have hct := hc_of hz
  obtain ⟨b, rg, hL, hJ, hr, ⟨hA, h6, h7⟩, h9, hh⟩ := hI
  have key : ∀ r M', cQ RR rg M [0, x1.toInt, x2.toInt, dnM M] ct_Mfelt r M' → a_I M 52 4 = a_I M' 113 28 → LZ q M' := fun r M' h e => by
    have e4 : a_I M' 52 4 = a_I M 52 4 := Fr_I h.2.1 (rg_at hL (a := 52) (by omega) (fun b => by cases b <;> rfl)) rfl
    exact ⟨b, rg, LB_fr hL h.1 h.2.1 (oMfelt_p b), JM_fr hL hJ h.2.1 oMfelt_j, Rm_e hr h.2.1.1, ⟨RnA_fr hL hJ h.2.1 (by decide) hA, e4.trans e, R6_fr hL h.2.1 (by decide) h6, R7_fr hL h.2.1 (by decide) h7⟩, Wh_set (by rw [Fr_I h.2.1 (rg_at hL (a := 0) (by omega) (fun b => by cases b <;> rfl)) rfl]; exact h9) (sM_ok hL (by decide) h)⟩
  rcases hJ.2.1 with hu | ⟨u, hu, hj⟩
  · refine wpS_mono (wpS_and (rf_felt0 hz hL x1 x2 (nvO_A (LB_nv (τ := id) hL) hu) (d := 38)) (oMfelt hct hL hJ x1 x2 (d := 39) (by omega))) (fun r M' h => ?_)
    obtain ⟨⟨y, y1, y2, y3⟩, h⟩ := h
    rcases hh with ⟨⟨⟨u, g1, _⟩, _⟩, _⟩ | ⟨_, g2, g3⟩
    · rw [hu] at g1; cases g1
    · exact ⟨y, y1, by rw [g3, y2], key r M' h (by rw [g2, y3])⟩
  · refine wpS_mono (wpS_and (rf_felt1 hz hL hJ x1 x2 (LB_28 hL) hu (d := 38)) (oMfelt hct hL hJ x1 x2 (d := 39) (by omega))) (fun r M' h => ?_)
    obtain ⟨⟨y, y1, y2⟩, h⟩ := h
    rcases y2 with ⟨c1, c2, c3⟩ | ⟨c1, c2, c3⟩
    · rcases hh with ⟨_, g2, g3⟩ | ⟨g1, _⟩
      · exact ⟨y, y1, by rw [g3, c2], key r M' h (by rw [g2, c3])⟩
      · exact absurd ⟨⟨u, hu, c1.1⟩, c1.2⟩ g1
    · rcases hh with ⟨⟨⟨v, g0, g1⟩, g4⟩, _⟩ | ⟨_, g2, g3⟩
      · rw [hu] at g0; cases g0
        exact absurd ⟨g1, g4⟩ c1
      · exact ⟨y, y1, by rw [g3, c2], key r M' h (by rw [g2, c3])⟩
/-! forget -/
def FO (q : Nat) (M : aM) (x : Int32) : Prop := ∃ b rg, LB b rg M ∧ JM rg M ∧ Rm q M ∧ (RnA b M ∧ R6 M ∧ R7 b M) ∧ Wh M ∧ a_I M 52 4 = 0 ∧ x = a_I M 113 28
theorem xw_forget {cd : Nat → Nat → Option aI} {z : Bool} (hz : ∀ m p i, cd0 z m p = some i → cd m p = some i) {q : Nat} {M : aM} (hI : LZ q M) : wpS cd (39, [], 119, 0, la 0 [.inr (.inr (some 0))], [], M) (fun r M' => ∃ x, r = some (.inl x) ∧ FO q M' x) := by
  have hct := hc_of hz
  obtain ⟨b, rg, hL, hJ, hr, ⟨hA, h5, h6, h7⟩, hW⟩ := hI
  refine wpS_mono (wpS_and (cf_forget hz hL (d := 38)) (oXforget hct hL (d := 39) (by omega))) (fun r M' h => ?_)
  obtain ⟨⟨y, y1, y2, y3⟩, h⟩ := h
  refine ⟨y, y1, b, rg, LB_fr hL h.1 h.2.1 (oXforget_p b), JM_fr hL hJ h.2.1 oXforget_j, Rm_e hr h.2.1.1, ⟨RnA_fr hL hJ h.2.1 (by decide) hA, R6_fr hL h.2.1 (by decide) h6, R7_fr hL h.2.1 (by decide) h7⟩, Wh_fr hL h.2.1 (by decide) hW, y3, ?_⟩
  rw [Fr_I h.2.1 (rg_at hL (a := 113) (by omega) (fun b => by cases b <;> rfl)) rfl, y2]
  exact h5
theorem mw_forget {cd : Nat → Nat → Option aI} {z : Bool} (hz : ∀ m p i, cd0 z m p = some i → cd m p = some i) {q : Nat} {M : aM} {x : Int32} (hI : FO q M x) : wpS cd (39, [], 208, 0, la 0 [.inr (.inr (some 113))], [], M) (fun r M' => ∃ y, r = some (.inl y) ∧ x = y ∧ LZ q M') := by
  have hct := hc_of hz
  obtain ⟨b, rg, hL, hJ, hr, ⟨hA, h6, h7⟩, hW, h4, hx⟩ := hI
  refine wpS_mono (wpS_and (rf_forget hz hL (d := 39)) (oMforget hct hL hJ (d := 39) (by omega))) (fun r M' h => ?_)
  obtain ⟨⟨y, y1, y2, y3⟩, h⟩ := h
  refine ⟨y, y1, by rw [hx, y2], b, rg, LB_fr hL h.1 h.2.1 (oMforget_p b), JM_fr hL hJ h.2.1 oMforget_j, Rm_e hr h.2.1.1, ⟨RnA_fr hL hJ h.2.1 (by decide) hA, ?_, R6_fr hL h.2.1 (by decide) h6, R7_fr hL h.2.1 (by decide) h7⟩, Wh_fr hL h.2.1 (by decide) hW⟩
  unfold R5
  rw [Fr_I h.2.1 (rg_at hL (a := 52) (by omega) (fun b => by cases b <;> rfl)) rfl, h4, y3]
/-! wall -/
def WlG (M : aM) (x1 x2 x3 : Int32) : Prop := (∃ u, a_P M 113 3 = some u ∧ 0 ≤ x1.toInt ∧ x1.toInt < (a_I M u 0).toInt) ∧ (-999 ≤ x2.toInt ∧ x3.toInt ≤ 999 ∧ x2.toInt ≤ x3.toInt)
def WaP (M : aM) (k : Nat) : Prop := a_I M 96 k = a_I M 135 k ∧ (a_I M 96 k = 0 ∨ (a_I M 96 k = 1 ∧ a_I M 97 k = a_I M 131 k ∧ a_I M 98 k = a_I M 132 k ∧ -999 ≤ (a_I M 131 k).toInt ∧ (a_I M 131 k).toInt ≤ (a_I M 132 k).toInt ∧ (a_I M 132 k).toInt ≤ 999))
def WA (q : Nat) (x1 x2 x3 : Int32) (M : aM) (x : Int32) : Prop := ∃ b rg, LB b rg M ∧ JM rg M ∧ Rm q M ∧ (RnA b M ∧ R5 M) ∧ a_I M 0 9 ≠ 4 ∧ ((¬ WlG M x1 x2 x3 ∧ (R6 M ∧ R7 b M) ∧ x = 0) ∨ (WlG M x1 x2 x3 ∧ x = 1 ∧ a_I M 95 5 = -1 ∧ x1.toInt.toNat < 30 ∧ (∀ k, k < 30 → k ≠ x1.toInt.toNat → WaP M k) ∧ (a_I M 96 x1.toInt.toNat = 1 ∧ a_I M 97 x1.toInt.toNat = x2 ∧ a_I M 98 x1.toInt.toNat = x3) ∧ (a_I M 113 37).toInt + (if a_I M 135 x1.toInt.toNat = 0 then 1 else 0) = (cnt M 30 : Int)))
theorem cnt_up {M M' : aM} {j : Nat} (h1 : ∀ k, k ≠ j → a_I M' 96 k = a_I M 96 k) (h2 : a_I M' 96 j = 1) : ∀ {n : Nat}, cnt M' n = cnt M n + (if j < n ∧ a_I M 96 j = 0 then 1 else 0)
  | 0 => by rw [if_neg (fun q => absurd q.1 (Nat.not_lt_zero j))]; rfl
  | n + 1 => by
    have ih := cnt_up h1 h2 (n := n)
    unfold cnt
    rw [ih]
    by_cases e : n = j
    · subst e
      rw [h2, if_neg (show ¬ ((1 : Int32) = 0) by decide), if_neg (show ¬ (n < n ∧ _) from fun q => absurd q.1 (Nat.lt_irrefl n))]
      by_cases c : a_I M 96 n = 0
      · rw [if_pos c, if_pos ⟨by omega, c⟩]
      · rw [if_neg c, if_neg (fun q => c q.2)]
    · rw [h1 n e]
      by_cases c : a_I M 96 j = 0
      · by_cases l : j < n
        · rw [if_pos ⟨l, c⟩, if_pos (show j < n + 1 ∧ _ from ⟨by omega, c⟩)]; omega
        · rw [if_neg (fun q => l q.1), if_neg (show ¬ (j < n + 1 ∧ _) from fun q => by omega)]; omega
      · rw [if_neg (show ¬ (j < n ∧ a_I M 96 j = 0) from fun q => c q.2), if_neg (show ¬ (j < n + 1 ∧ a_I M 96 j = 0) from fun q => c q.2)]; omega
theorem WlG_e {M M' : aM} (hP : a_P M' 113 3 = a_P M 113 3) (hu : ∀ u, a_P M 113 3 = some u → a_I M' u 0 = a_I M u 0) (x1 x2 x3 : Int32) : WlG M' x1 x2 x3 ↔ WlG M x1 x2 x3 := by
  unfold WlG
  rw [hP]
  constructor
  · rintro ⟨⟨u, h1, h2⟩, h3⟩
    exact ⟨⟨u, h1, by rw [← hu u h1]; exact h2⟩, h3⟩
  · rintro ⟨⟨u, h1, h2⟩, h3⟩
    exact ⟨⟨u, h1, by rw [hu u h1]; exact h2⟩, h3⟩
theorem cur_30 {b : Bool} {rg : Nat → Nat} {M : aM} (hL : LB b rg M) : (a_I M (cur b) 0).toInt ≤ 30 := by
  have q := (hL.1.2 (cur b) (lo_n hL (by cases b <;> decide))).2.2 0 (by rw [cur_rg hL]; decide)
  rw [cur_rg hL] at q
  exact q.2
theorem xw_wall {cd : Nat → Nat → Option aI} {z : Bool} (hz : ∀ m p i, cd0 z m p = some i → cd m p = some i) {q : Nat} {M : aM} (hI : LZ q M) (x1 x2 x3 : Int32) : wpS cd (39, [], 131, 0, la 0 [.inr (.inr (some 0)), .inl x1, .inl x2, .inl x3], [], M) (fun r M' => ∃ x, r = some (.inl x) ∧ WA q x1 x2 x3 M' x) := by
  have hct := hc_of hz
  obtain ⟨b, rg, hL, hJ, hr, ⟨hA, h5, h6, h7⟩, hW⟩ := hI
  refine wpS_mono (wpS_and (cf_wall hz hL x1 x2 x3 (cur_30 hL) (d := 38)) (oXwall hct hL x1 x2 x3 (d := 39) (by omega))) (fun r M' h => ?_)
  obtain ⟨⟨y, y1, y2⟩, h⟩ := h
  have hi := InR_u (x := x1) hA.2.1
  have hg : WlG M' x1 x2 x3 ↔ WlG M x1 x2 x3 := WlG_e (Fr_P h.2.1 (rg_at hL (a := 113) (by omega) (fun b => by cases b <;> rfl)) rfl) (fun u hu => Fr_I h.2.1 (JM_u hJ hu).2.1 rfl) x1 x2 x3
  have hcu := cur_v b
  refine ⟨y, y1, b, rg, LB_fr hL h.1 h.2.1 (oXwall_p b), JM_fr hL hJ h.2.1 oXwall_j, Rm_e hr h.2.1.1, ⟨RnA_fr hL hJ h.2.1 (by decide) hA, R5_fr hL h.2.1 (by decide) h5⟩, sX_ok hL (by decide) h, ?_⟩
  rw [hg]
  rcases y2 with ⟨g1, g2, g3⟩ | ⟨g1, g2, v, g3⟩
  · have hb := cur_30 hL
    have g12 := g1.1.2
    refine Or.inr ⟨⟨hi.mp g1.1, g1.2⟩, g2, ?_, by omega, fun k hk hne => ?_, ⟨?_, ?_, ?_⟩, ?_⟩
    · rw [g3, aI_nk (by omega)]; exact aI_at
    · unfold WaP
      rw [g3]
      have e : ∀ a, a = 96 ∨ a = 97 ∨ a = 98 ∨ a = 131 ∨ a = 132 ∨ a = 135 → a_I (s_I (s_I (s_I (s_I (s_I M 96 x1.toInt.toNat 1) 97 x1.toInt.toNat x2) 98 x1.toInt.toNat x3) 95 5 (-1)) 0 9 0) a k = a_I M a k := fun a ha => by
        rw [aI_nk (by omega), aI_nk (by omega), aI_nk (fun w => hne w.2), aI_nk (fun w => hne w.2), aI_nk (fun w => hne w.2)]
      rw [e 96 (by omega), e 97 (by omega), e 98 (by omega), e 131 (by omega), e 132 (by omega), e 135 (by omega)]
      exact h6.1 k hk
    · rw [g3, aI_nk (by omega), aI_nk (by omega), aI_nk (by omega), aI_nk (by omega)]; exact aI_at
    · rw [g3, aI_nk (by omega), aI_nk (by omega), aI_nk (by omega)]; exact aI_at
    · rw [g3, aI_nk (by omega), aI_nk (by omega)]; exact aI_at
    · have e37 : a_I M' 113 37 = a_I M 113 37 := by rw [g3, aI_nk (by omega), aI_nk (by omega), aI_nk (by omega), aI_nk (by omega), aI_nk (by omega)]
      have e135 : a_I M' 135 x1.toInt.toNat = a_I M 135 x1.toInt.toNat := by rw [g3, aI_nk (by omega), aI_nk (by omega), aI_nk (by omega), aI_nk (by omega), aI_nk (by omega)]
      have e96 : ∀ k, a_I M' 96 k = if k = x1.toInt.toNat then 1 else a_I M 96 k := fun k => by
        rw [g3, aI_nk (by omega), aI_nk (by omega), aI_nk (by omega), aI_nk (by omega), aI_sI]; exact ifj
      rw [e37, e135, ← (h6.1 x1.toInt.toNat (by omega)).1, cnt_up (M := M) (M' := M') (j := x1.toInt.toNat) (fun k hk => by rw [e96, if_neg hk]) (by rw [e96, if_pos rfl]), h6.2]
      by_cases c : a_I M 96 x1.toInt.toNat = 0
      · rw [if_pos c, if_pos ⟨by omega, c⟩]; omega
      · rw [if_neg c, if_neg (fun w => c w.2)]; omega
  · have hs : ∀ a j, ¬ (a = 0 ∧ j = 9) → a_I M' a j = a_I M a j := fun a j w => by rw [g3]; exact aI_nk w
    obtain ⟨_, r6, r7⟩ := RX_i (b := b) (M := M) (M' := M') (fun a j w => hs a j (by omega)) ⟨h5, h6, h7⟩
    exact Or.inl ⟨fun w => g1 ⟨hi.mpr w.1, w.2⟩, ⟨r6, r7⟩, g2⟩
theorem mw_wall {cd : Nat → Nat → Option aI} {z : Bool} (hz : ∀ m p i, cd0 z m p = some i → cd m p = some i) {q : Nat} {M : aM} {x : Int32} (x1 x2 x3 : Int32) (hI : WA q x1 x2 x3 M x) : wpS cd (39, [], 235, 0, la 0 [.inr (.inr (some 113)), .inl x1, .inl x2, .inl x3], [], M) (fun r M' => ∃ y, r = some (.inl y) ∧ x = y ∧ LZ q M') := by
  have hct := hc_of hz
  obtain ⟨b, rg, hL, hJ, hr, ⟨hA, h5⟩, h9, hh⟩ := hI
  have hcu := cur_v b
  have key : ∀ r M', cQ RR rg M [0, x1.toInt, x2.toInt, x3.toInt, dnM M] ct_Mwall r M' → R6 M' ∧ R7 b M' → LZ q M' := fun r M' h e => ⟨b, rg, LB_fr hL h.1 h.2.1 (oMwall_p b), JM_fr hL hJ h.2.1 oMwall_j, Rm_e hr h.2.1.1, ⟨RnA_fr hL hJ h.2.1 (by decide) hA, R5_fr hL h.2.1 (by decide) h5, e⟩, Wh_set (by rw [Fr_I h.2.1 (rg_at hL (a := 0) (by omega) (fun b => by cases b <;> rfl)) rfl]; exact h9) (sM_ok hL (by decide) h)⟩
  have bad : ∀ M' v, M' = s_I (s_I (s_I M 113 0 0) 113 1 v) 113 2 (-1) → R6 M ∧ R7 b M → R6 M' ∧ R7 b M' := fun M' v e w => by
    have hs : ∀ a j, ¬ (a = 113 ∧ j < 3) → a_I M' a j = a_I M a j := fun a j w => by
      rw [e, aI_nk (by omega), aI_nk (by omega), aI_nk (by omega)]
    exact (RX_i (b := b) (M := M) (M' := M') (fun a j w => hs a j (by omega)) ⟨h5, w⟩).2
  rcases hJ.2.1 with hu | ⟨u, hu, hj⟩
  · refine wpS_mono (wpS_and (rf_wall0 hz hL x1 x2 x3 (nvO_A (LB_nv (τ := id) hL) hu) (d := 38)) (oMwall hct hL hJ x1 x2 x3 (d := 39) (by omega))) (fun r M' h => ?_)
    obtain ⟨⟨y, y1, y2, v, y3⟩, h⟩ := h
    rcases hh with ⟨_, g2, g3⟩ | ⟨⟨⟨u, g1, _⟩, _⟩, _⟩
    · exact ⟨y, y1, by rw [g3, y2], key r M' h (bad M' v y3 g2)⟩
    · rw [hu] at g1; cases g1
  · refine wpS_mono (wpS_and (rf_wall1 hz hL hJ x1 x2 x3 hu (d := 38)) (oMwall hct hL hJ x1 x2 x3 (d := 39) (by omega))) (fun r M' h => ?_)
    obtain ⟨⟨y, y1, y2⟩, h⟩ := h
    rcases y2 with ⟨c1, c2, c3⟩ | ⟨c1, c2, v, c3⟩
    · rcases hh with ⟨g1, _⟩ | ⟨_, g2, g3, g4, g5, ⟨g6, g7, g8⟩, g9⟩
      · exact absurd ⟨⟨u, hu, c1.1⟩, c1.2⟩ g1
      · have hI : ∀ a k, a ≠ 113 → a ≠ 135 → a ≠ 131 → a ≠ 132 → a_I M' a k = a_I M a k := fun a k n1 n2 n3 n4 => by
          rw [c3, aI_nk (by omega), aI_nk (by omega), aI_nk (by omega), aI_nk (by omega), aI_nk (by omega), aI_nk (by omega), aI_nk (by omega)]
        have hK : ∀ a k, k ≠ x1.toInt.toNat → a ≠ 113 → a_I M' a k = a_I M a k := fun a k n1 n2 => by
          rw [c3, aI_nk (by omega), aI_nk (by omega), aI_nk (fun w => n1 w.2), aI_nk (fun w => n1 w.2), aI_nk (fun w => n1 w.2), aI_nk (by omega), aI_nk (by omega)]
        refine ⟨y, y1, by rw [g2, c2], key r M' h ⟨⟨fun k hk => ?_, ?_⟩, Or.inl (by rw [hI 95 5 (by omega) (by omega) (by omega) (by omega)]; exact g3)⟩⟩
        · by_cases e : k = x1.toInt.toNat
          · have k1 : a_I M' 135 k = 1 := by rw [c3, e, aI_nk (by omega), aI_nk (by omega), aI_nk (by omega), aI_nk (by omega)]; exact aI_at
            have k2 : a_I M' 131 k = x2 := by rw [c3, e, aI_nk (by omega), aI_nk (by omega), aI_nk (by omega)]; exact aI_at
            have k3 : a_I M' 132 k = x3 := by rw [c3, e, aI_nk (by omega), aI_nk (by omega)]; exact aI_at
            rw [hI 96 k (by omega) (by omega) (by omega) (by omega), hI 97 k (by omega) (by omega) (by omega) (by omega), hI 98 k (by omega) (by omega) (by omega) (by omega), k1, k2, k3, e, g6, g7, g8]
            exact ⟨rfl, Or.inr ⟨rfl, rfl, rfl, c1.2.1, c1.2.2.2, c1.2.2.1⟩⟩
          · rw [hK 96 k e (by omega), hK 97 k e (by omega), hK 98 k e (by omega), hK 131 k e (by omega), hK 132 k e (by omega), hK 135 k e (by omega)]
            exact g5 k hk e
        · have k7 : a_I M' 113 37 = a_I M 113 37 + (if a_I M 135 x1.toInt.toNat = 0 then 1 else 0) := by
            rw [c3, aI_nk (by omega), aI_nk (by omega), aI_nk (by omega), aI_nk (by omega), aI_nk (by omega)]; exact aI_at
          rw [k7, cnt_e (M := M) (fun k hk => hI 96 k (by omega) (by omega) (by omega) (by omega)) (Nat.le_refl _), ← g9]
          have hc := cnt_le (M := M) (n := 30)
          by_cases c : a_I M 135 x1.toInt.toNat = 0
          · rw [if_pos c] at g9
            rw [if_pos c, if_pos c, add_i (by show (-2147483648 : Int) ≤ _ + 1; omega) (by show _ + 1 ≤ (2147483647 : Int); omega)]
            rfl
          · rw [if_neg c, if_neg c, Int32.add_zero]; omega
    · rcases hh with ⟨_, g2, g3⟩ | ⟨⟨⟨w, g0, g1⟩, g4⟩, _⟩
      · exact ⟨y, y1, by rw [g3, c2], key r M' h (bad M' v c3 g2)⟩
      · rw [hu] at g0; cases g0
        exact absurd ⟨g1, g4⟩ c1
/-! clear -/
def CW (q : Nat) (M : aM) (x : Int32) : Prop := ∃ b rg, LB b rg M ∧ JM rg M ∧ Rm q M ∧ (RnA b M ∧ R5 M) ∧ Wh M ∧ (∀ k, k < 30 → a_I M 96 k = 0) ∧ a_I M 95 5 = -1 ∧ x = a_I M 113 37
theorem xw_clear {cd : Nat → Nat → Option aI} {z : Bool} (hz : ∀ m p i, cd0 z m p = some i → cd m p = some i) {q : Nat} {M : aM} (hI : LZ q M) : wpS cd (39, [], 132, 0, la 0 [.inr (.inr (some 0))], [], M) (fun r M' => ∃ x, r = some (.inl x) ∧ CW q M' x) := by
  have hct := hc_of hz
  obtain ⟨b, rg, hL, hJ, hr, ⟨hA, h5, h6, h7⟩, hW⟩ := hI
  refine wpS_mono (wpS_and (cf_clear hz hL (d := 38)) (oXclear hct hL (d := 39) (by omega))) (fun r M' h => ?_)
  obtain ⟨⟨y, y1, y2, y3, y4, y5⟩, h⟩ := h
  refine ⟨y, y1, b, rg, LB_fr hL h.1 h.2.1 (oXclear_p b), JM_fr hL hJ h.2.1 oXclear_j, Rm_e hr h.2.1.1, ⟨RnA_fr hL hJ h.2.1 (by decide) hA, R5_fr hL h.2.1 (by decide) h5⟩, Wh_fr hL h.2.1 (by decide) hW, y4, y5, ?_⟩
  rw [Fr_I h.2.1 (rg_at hL (a := 113) (by omega) (fun b => by cases b <;> rfl)) rfl]
  exact Int32.toInt_inj.mp (by rw [y2, h6.2])
theorem mw_clear {cd : Nat → Nat → Option aI} {z : Bool} (hz : ∀ m p i, cd0 z m p = some i → cd m p = some i) {q : Nat} {M : aM} {x : Int32} (hI : CW q M x) : wpS cd (39, [], 236, 0, la 0 [.inr (.inr (some 113))], [], M) (fun r M' => ∃ y, r = some (.inl y) ∧ x = y ∧ LZ q M') := by
  have hct := hc_of hz
  obtain ⟨b, rg, hL, hJ, hr, ⟨hA, h5⟩, hW, h96, h95, hx⟩ := hI
  refine wpS_mono (wpS_and (rf_clear hz hL (d := 39)) (oMclear hct hL hJ (d := 39) (by omega))) (fun r M' h => ?_)
  obtain ⟨⟨y, y1, y2, y3, y4, y5⟩, h⟩ := h
  have e96 : ∀ k, k < 30 → a_I M' 96 k = 0 := fun k hk => by rw [y3.2.2 96 k rfl]; exact h96 k hk
  refine ⟨y, y1, by rw [hx, y2], b, rg, LB_fr hL h.1 h.2.1 (oMclear_p b), JM_fr hL hJ h.2.1 oMclear_j, Rm_e hr h.2.1.1, ⟨RnA_fr hL hJ h.2.1 (by decide) hA, R5_fr hL h.2.1 (by decide) h5, ⟨fun k hk => ?_, ?_⟩, Or.inl ?_⟩, Wh_fr hL h.2.1 (by decide) hW⟩
  · rw [e96 k hk, y4 k hk]; exact ⟨rfl, Or.inl rfl⟩
  · rw [y5, cnt_0 e96 (Nat.le_refl _)]; rfl
  · rw [y3.2.2 95 5 rfl]; exact h95
/-! lies, next -/
theorem bd_of {b : Bool} {rg : Nat → Nat} {M : aM} {u n : Nat} (hL : LB b rg M) (hj : JS rg M u) (h6 : R6 M) (hn : n ≤ 30) : BD n (sd0 M (a_I M u 1)) ∧ AG n (sp0 M n (a_I M u 1)) (sd0 M (a_I M u 1)) := by
  obtain ⟨_, ⟨w1, w2⟩, _⟩ := JS_in hL hj
  have hneg : (-(a_I M u 1)).toInt = -(a_I M u 1).toInt := neg_i (by show (-2147483648 : Int) < _; omega)
  refine ⟨fun j hj => ?_, fun j hj => ?_⟩
  · obtain ⟨e, c⟩ := h6.1 j (by omega)
    show -999 ≤ (if a_I M 96 j = 0 then -(a_I M u 1) else a_I M 97 j).toInt ∧ (if a_I M 96 j = 0 then -(a_I M u 1) else a_I M 97 j).toInt ≤ (if a_I M 96 j = 0 then a_I M u 1 else a_I M 98 j).toInt ∧ (if a_I M 96 j = 0 then a_I M u 1 else a_I M 98 j).toInt ≤ 999
    rcases c with c | ⟨c, c1, c2, c3, c4, c5⟩
    · rw [if_pos c, if_pos c, hneg]; omega
    · rw [if_neg (by rw [c]; decide), if_neg (by rw [c]; decide), c1, c2]; exact ⟨c3, c4, c5⟩
  · obtain ⟨e, c⟩ := h6.1 j (by omega)
    show (if j < n then (if a_I M 135 j = 0 then -(a_I M u 1) else a_I M 131 j) else a_I M 133 j) = (if a_I M 96 j = 0 then -(a_I M u 1) else a_I M 97 j) ∧ (if j < n then (if a_I M 135 j = 0 then a_I M u 1 else a_I M 132 j) else a_I M 134 j) = (if a_I M 96 j = 0 then a_I M u 1 else a_I M 98 j)
    rw [if_pos hj, if_pos hj, ← e]
    rcases c with c | ⟨c, c1, c2, _⟩
    · rw [if_pos c, if_pos c, if_pos c, if_pos c]; exact ⟨rfl, rfl⟩
    · rw [if_neg (by rw [c]; decide), if_neg (by rw [c]; decide), if_neg (by rw [c]; decide), if_neg (by rw [c]; decide), c1, c2]; exact ⟨rfl, rfl⟩
theorem AG_s {n : Nat} {a b : spA} (h : AG n a b) : AG n b a := fun j hj => ⟨(h j hj).1.symm, (h j hj).2.symm⟩
theorem AG_t {n : Nat} {a b c : spA} (h : AG n a b) (g : AG n b c) : AG n a c := fun j hj => ⟨(h j hj).1.trans (g j hj).1, (h j hj).2.trans (g j hj).2⟩
theorem BD_ag {n : Nat} {a b : spA} (h : BD n a) (g : AG n a b) : BD n b := fun j hj => by rw [← (g j hj).1, ← (g j hj).2]; exact h j hj
theorem sc_sd {M : aM} {w : Int32} : AG 30 (sc0 M 30 w) (sd0 M w) := fun j hj => by
  show (if j < 30 then _ else _) = _ ∧ (if j < 30 then _ else _) = _
  rw [if_pos hj, if_pos hj]
  exact ⟨rfl, rfl⟩
theorem AG_le {n m : Nat} {a b : spA} (h : AG m a b) (hn : n ≤ m) : AG n a b := fun j hj => h j (by omega)
/-- what the class's narrow leaves is the reference's spans -/
theorem nar_ok {b : Bool} {rg : Nat → Nat} {M M2 : aM} {u n : Nat} {k y : Int32} (hL : LB b rg M) (hJ : JM rg M) (hu : a_P M 113 3 = some u) (hn : (a_I M u 0).toInt = (n : Int)) (hc0 : a_I M (cur b) 0 = a_I M u 0) (hc1 : a_I M (cur b) 1 = a_I M u 1) (h6 : R6 M) (h7 : R7 b M) (hk : 0 ≤ k.toInt) (h : NarR M M2 n (a_I M u 1) k y) : (∀ F', 60000 ≤ F' → spn k n F' (sp0 M n (a_I M u 1)) = spn k n 60000 (sp0 M n (a_I M u 1))) ∧ (((spn k n 60000 (sp0 M n (a_I M u 1))).2 = true ∧ y = 1 ∧ AG n (mSp M2) (spn k n 60000 (sp0 M n (a_I M u 1))).1) ∨ ((spn k n 60000 (sp0 M n (a_I M u 1))).2 = false ∧ y = 0)) ∧ R7 b M2 := by
  have hj := JM_u hJ hu
  obtain ⟨⟨n2, n3⟩, _⟩ := JS_in hL hj
  obtain ⟨hB, hG⟩ := bd_of hL hj h6 (n := n) (by omega)
  have hBp := BD_ag hB (AG_s hG)
  have hm : ∀ a, BD n a → mu2 n a < 60000 := fun a h => by have := (mu_2 h).2; omega
  have cvp := spn_cv2 (k := k) (n := n) (by omega) hBp (hm _ hBp)
  have cvd := spn_cv2 (k := k) (n := n) (by omega) hB (hm _ hB)
  refine ⟨cvp, ?_⟩
  rcases h with ⟨g1, g2, g3⟩ | ⟨g1, g2, g3, g4, g5⟩
  · subst g2
    rcases h7 with e | ⟨n', F, e1, e2, e3⟩
    · rw [e] at g1; rw [← g1] at hk; exact absurd hk (by decide)
    · have en : n' = n := by rw [hc0, hn] at e1; omega
      subst en
      have h7' : R7 b M2 := Or.inr ⟨n', F, e1, e2, e3⟩
      rw [g1, hc1] at e2 e3
      obtain ⟨ag, fl⟩ := spn_ag (n := n') (k := k) (by omega) (F := max F 60000) (AG_s hG)
      rw [e2 _ (Nat.le_max_left _ _), cvp _ (Nat.le_max_right _ _)] at ag fl
      refine ⟨?_, h7'⟩
      rcases e3 with ⟨f1, f2, f3⟩ | ⟨f1, f2⟩
      · exact Or.inl ⟨by rw [← fl]; exact f1, by rw [g3, f2], AG_t f3 ag⟩
      · exact Or.inr ⟨by rw [← fl]; exact f1, by rw [g3, f2]⟩
  · obtain ⟨m1, m2, m3⟩ := cur_ne b
    have hGc : AG n (sc0 M 30 (a_I M u 1)) (sd0 M (a_I M u 1)) := AG_le sc_sd (by omega)
    obtain ⟨ag1, fl1⟩ := spn_ag (n := n) (k := k) (by omega) (F := 60000) hGc
    obtain ⟨ag2, fl2⟩ := spn_ag (n := n) (k := k) (by omega) (F := 60000) (AG_s hG)
    have hs : ∀ a j, a = 96 ∨ a = 97 ∨ a = 98 → a_I M2 a j = a_I M a j := fun a j e => g2.2.2 a j (by
      unfold fnr
      rw [fcu_c (by omega) (by omega) (by omega), nbF (show a ≠ 95 by omega)]; rfl)
    have e1 : sd0 M2 = sd0 M := funext fun w => by
      unfold sd0
      rw [show a_I M2 96 = a_I M 96 from funext fun k => hs 96 k (by omega), show a_I M2 97 = a_I M 97 from funext fun k => hs 97 k (by omega), show a_I M2 98 = a_I M 98 from funext fun k => hs 98 k (by omega)]
    have c0 : ∀ j, a_I M2 (cur b) j = a_I M (cur b) j := fun j => g2.2.2 (cur b) j (by unfold fnr; rw [fcu_c m1 m2 m3, nbF m1]; rfl)
    rcases g5 with ⟨f1, f2, f3, f4⟩ | ⟨f1, f2, f3⟩
    · have agm : AG n (mSp M2) (spn k n 60000 (sc0 M 30 (a_I M u 1))).1 := fun j _ => ⟨f4.1 j, f4.2 j⟩
      refine ⟨Or.inl ⟨by rw [← fl2, ← fl1]; exact f1, f2, AG_t agm (AG_t ag1 ag2)⟩, Or.inr ⟨n, 60000, by rw [c0, hc0]; exact hn, ?_, Or.inl ⟨?_, f3, ?_⟩⟩⟩
      · rw [g3, c0, hc1, e1]; exact cvd
      · rw [g3, c0, hc1, e1, ← fl1]; exact f1
      · rw [g3, c0, hc1, e1]; exact AG_t agm ag1
    · refine ⟨Or.inr ⟨by rw [← fl2, ← fl1]; exact f1, f2⟩, Or.inr ⟨n, 60000, by rw [c0, hc0]; exact hn, ?_, Or.inr ⟨?_, f3⟩⟩⟩
      · rw [g3, c0, hc1, e1]; exact cvd
      · rw [g3, c0, hc1, e1, ← fl1]; exact f1
theorem nar_i {M M2 : aM} {n : Nat} {w k y v : Int32} (h : NarR M M2 n w k y) (a j : Nat) (ha : a ≠ 95 ∧ a ≠ 99 ∧ a ≠ 100 ∧ ¬ (a = 0 ∧ j = 9)) : a_I (s_I M2 0 9 v) a j = a_I M a j := by
  rw [aI_nk ha.2.2.2]
  exact nar_c ha.1 ha.2.1 ha.2.2.1 h
theorem Rn_nar {b : Bool} {rg : Nat → Nat} {M M2 : aM} {n : Nat} {w k y v : Int32} (hL : LB b rg M) (hJ : JM rg M) (h : NarR M M2 n w k y) (h7 : R7 b M2) (hR : Rn b M) : Rn b (s_I M2 0 9 v) := by
  obtain ⟨⟨r1, r2, r3⟩, r5, r6, _⟩ := hR
  have hcu := cur_v b
  have hI := nar_i (v := v) h
  have hP : a_P (s_I M2 0 9 v) = a_P M := by
    show a_P M2 = a_P M
    rcases h with ⟨_, e, _⟩ | ⟨_, e, _⟩
    · rw [e]
    · exact e.2.1.2.2.2
  refine ⟨⟨⟨?_, fun j => ?_⟩, R2_i hL hJ (fun a j e => hI a j (by omega)) (by rw [hP]) r2, ?_⟩, ?_, R6_i (fun a j e => hI a j (by omega)) (hI 113 37 (by omega)) r6, R7_i (M := M2) (fun a j e => aI_nk (by omega)) (aI_nk (by omega)) (aI_nk (by omega)) (fun j _ => aI_nk (by omega)) h7⟩
  · rw [hI 2 1 (by omega), hI 113 6 (by omega)]; exact r1.1
  · rw [hI 3 j (by omega), hI 114 j (by omega)]; exact r1.2 j
  · unfold R3; rw [hI 0 10 (by omega), hI 113 13 (by omega)]; exact r3
  · unfold R5; rw [hI 52 4 (by omega), hI 113 28 (by omega)]; exact r5
theorem Rn_9 {b : Bool} {rg : Nat → Nat} {M : aM} {v : Int32} (hL : LB b rg M) (hJ : JM rg M) (hR : Rn b M) : Rn b (s_I M 0 9 v) := by
  obtain ⟨⟨r1, r2, r3⟩, rX⟩ := hR
  have hcu := cur_v b
  have hI : ∀ a j, ¬ (a = 0 ∧ j = 9) → a_I (s_I M 0 9 v) a j = a_I M a j := fun a j e => aI_nk e
  refine ⟨⟨⟨?_, fun j => ?_⟩, R2_i hL hJ (fun a j e => hI a j (by omega)) rfl r2, ?_⟩, RX_i (fun a j e => hI a j (by omega)) rX⟩
  · rw [hI 2 1 (by omega), hI 113 6 (by omega)]; exact r1.1
  · rw [hI 3 j (by omega), hI 114 j (by omega)]; exact r1.2 j
  · unfold R3; rw [hI 0 10 (by omega), hI 113 13 (by omega)]; exact r3
/-- LiR, NxR look at the reference's side alone -/
theorem sp0_e {M M' : aM} {n : Nat} {w : Int32} (h : ∀ a j, a = 131 ∨ a = 132 ∨ a = 133 ∨ a = 134 ∨ a = 135 → a_I M' a j = a_I M a j) : sp0 M' n w = sp0 M n w := by
  unfold sp0
  rw [show a_I M' 131 = a_I M 131 from funext fun k => h 131 k (by omega), show a_I M' 132 = a_I M 132 from funext fun k => h 132 k (by omega), show a_I M' 133 = a_I M 133 from funext fun k => h 133 k (by omega), show a_I M' 134 = a_I M 134 from funext fun k => h 134 k (by omega), show a_I M' 135 = a_I M 135 from funext fun k => h 135 k (by omega)]
def LiP (M : aM) (x1 x2 x3 x : Int32) : Prop := (a_P M 113 3 = none ∧ x = -1000000) ∨ ∃ u, a_P M 113 3 = some u ∧ LiR M u x1 x2 x3 x
def NxP (M : aM) (x1 x : Int32) : Prop := (a_P M 113 3 = none ∧ x = -1) ∨ ∃ u, a_P M 113 3 = some u ∧ NxR M u x1 x
theorem LiR_e {M M' : aM} {u : Nat} {x1 x2 x3 x : Int32} (hI : ∀ a j, (131 ≤ a ∧ a ≤ 135) ∨ a = u → a_I M' a j = a_I M a j) (h : LiR M u x1 x2 x3 x) : LiR M' u x1 x2 x3 x := by
  unfold LiR
  rw [hI u 0 (by omega), hI u 1 (by omega), sp0_e (M := M) (M' := M') (fun a j e => hI a j (by omega))]
  exact h
theorem NxR_e {M M' : aM} {u : Nat} {x1 x : Int32} (hI : ∀ a j, (131 ≤ a ∧ a ≤ 135) ∨ a = u → a_I M' a j = a_I M a j) (h : NxR M u x1 x) : NxR M' u x1 x := by
  unfold NxR
  rw [hI u 0 (by omega), hI u 1 (by omega), sp0_e (M := M) (M' := M') (fun a j e => hI a j (by omega))]
  exact h
theorem LiR_q {M : aM} {u : Nat} {x1 x2 x3 x y : Int32} (h : LiR M u x1 x2 x3 x) (g : LiR M u x1 x2 x3 y) : x = y := by
  rcases h with ⟨a1, a2⟩ | ⟨a1, ⟨a2, a3⟩ | ⟨a2, F, a3, a4⟩⟩ <;> rcases g with ⟨b1, b2⟩ | ⟨b1, ⟨b2, b3⟩ | ⟨b2, G, b3, b4⟩⟩ <;> try omega
  · rw [a2, b2]
  · rw [a3, b3]
  · rw [a4, b4, ← a3 _ (Nat.le_max_left F G), ← b3 _ (Nat.le_max_right F G)]
theorem NxR_q {M : aM} {u : Nat} {x1 x y : Int32} (h : NxR M u x1 x) (g : NxR M u x1 y) : x = y := by
  rcases h with ⟨a1, a2⟩ | ⟨a1, F, a3, a4⟩ <;> rcases g with ⟨b1, b2⟩ | ⟨b1, G, b3, b4⟩ <;> try omega
  · rw [a2, b2]
  · rw [← a3 _ (Nat.le_max_left F G)] at a4
    rw [← b3 _ (Nat.le_max_right F G)] at b4
    rcases a4 with ⟨f1, f2⟩ | ⟨f1, f2⟩ <;> rcases b4 with ⟨e1, e2⟩ | ⟨e1, e2⟩
    · rw [f2, e2]
    · rw [f1] at e1; cases e1
    · rw [f1] at e1; cases e1
    · exact Int32.toInt_inj.mp (f2.trans e2.symm)
def LH (q : Nat) (x1 x2 x3 : Int32) (M : aM) (x : Int32) : Prop := ∃ b rg, LB b rg M ∧ JM rg M ∧ Rm q M ∧ Rn b M ∧ a_I M 0 9 ≠ 4 ∧ LiP M x1 x2 x3 x
def NH (q : Nat) (x1 : Int32) (M : aM) (x : Int32) : Prop := ∃ b rg, LB b rg M ∧ JM rg M ∧ Rm q M ∧ Rn b M ∧ a_I M 0 9 ≠ 4 ∧ NxP M x1 x
theorem hok_of {b : Bool} {rg : Nat → Nat} {M : aM} (hL : LB b rg M) (hJ : JM rg M) (h2 : R2 b M) (h6 : R6 M) {n : Nat} (hn : (a_I M (cur b) 0).toInt = (n : Int)) : a_I M 0 8 ≠ 0 → 2 ≤ n ∧ n ≤ 30 ∧ BD n (sc0 M 30 (a_I M (cur b) 1)) := fun h => by
  rcases h2 with ⟨e, _⟩ | ⟨_, u, hu, u0, u1, _⟩
  · exact absurd e h
  · have hj := JM_u hJ hu
    obtain ⟨⟨n2, n3⟩, _⟩ := JS_in hL hj
    rw [u0] at hn
    refine ⟨by omega, by omega, ?_⟩
    rw [u1]
    exact BD_ag (bd_of hL hj h6 (n := n) (by omega)).1 (AG_s (AG_le sc_sd (by omega)))
theorem cur_0 {b : Bool} {rg : Nat → Nat} {M : aM} (hL : LB b rg M) : 0 ≤ (a_I M (cur b) 0).toInt := by
  have q := (hL.1.2 (cur b) (lo_n hL (by cases b <;> decide))).2.2 0 (by rw [cur_rg hL]; decide)
  rw [cur_rg hL] at q
  exact q.1
theorem xw_lies {cd : Nat → Nat → Option aI} {z : Bool} (hz : ∀ m p i, cd0 z m p = some i → cd m p = some i) {q : Nat} {M : aM} (hI : LZ q M) (x1 x2 x3 : Int32) (h3 : 0 ≤ x3.toInt ∧ x3.toInt ≤ 1) : wpS cd (39, [], 133, 0, la 0 [.inr (.inr (some 0)), .inl x1, .inl x2, .inl x3], [], M) (fun r M' => ∃ x, r = some (.inl x) ∧ LH q x1 x2 x3 M' x) := by
  have hct := hc_of hz
  obtain ⟨b, rg, hL, hJ, hr, hR, hW⟩ := hI
  have c0 := cur_0 hL
  obtain ⟨n, hn⟩ : ∃ n : Nat, (a_I M (cur b) 0).toInt = (n : Int) := ⟨(a_I M (cur b) 0).toInt.toNat, by omega⟩
  refine wpS_mono (wpS_and (cf_lies hz hL x1 x2 x3 hn rfl (hok_of hL hJ hR.1.2.1 hR.2.2.1 hn) (d := 36)) (oXlies hct hL x1 x2 x3 h3 (d := 39) (by omega))) (fun r M' h => ?_)
  obtain ⟨⟨y, y1, y2⟩, h⟩ := h
  have hL' := LB_fr hL h.1 h.2.1 (oXlies_p b)
  have hJ' := JM_fr hL hJ h.2.1 oXlies_j
  have h9' := sX_ok hL (by decide) h
  have hcu := cur_v b
  rcases y2 with ⟨g1, g2, v, g3⟩ | ⟨g1, M2, y2, v, g2, g3, g4⟩
  · have hI : ∀ a j, ¬ (a = 0 ∧ j = 9) → a_I M' a j = a_I M a j := fun a j e => by rw [g3]; exact aI_nk e
    refine ⟨y, y1, b, rg, hL', hJ', Rm_e hr h.2.1.1, by rw [g3]; exact Rn_9 hL hJ hR, h9', ?_⟩
    have hP : a_P M' 113 3 = a_P M 113 3 := by rw [g3]; rfl
    unfold LiP
    rw [hP]
    rcases hR.1.2.1 with ⟨e8, hu⟩ | ⟨e8, u, hu, u0, u1, _⟩
    · exact Or.inl ⟨hu, g2⟩
    · have hu9 := rg_12 hL (Or.inl (JM_u hJ hu).2.1)
      refine Or.inr ⟨u, hu, LiR_e (M := M) (fun a j e => hI a j (by omega)) ?_⟩
      unfold LiR
      rw [← u0, hn]
      by_cases cx : x1.toInt < 0 ∨ (n : Int) ≤ x1.toInt
      · exact Or.inl ⟨cx, g2⟩
      · refine Or.inr ⟨by omega, Or.inl ⟨?_, g2⟩⟩
        by_cases ck : x2.toInt < 0 ∨ 99 < x2.toInt
        · exact ck
        · exact absurd ⟨⟨by rw [e8]; decide, by omega, by omega⟩, by omega, by omega⟩ g1
  · rcases hR.1.2.1 with ⟨e8, _⟩ | ⟨e8, u, hu, u0, u1, _⟩
    · exact absurd e8 g1.1.1
    · have hn9 : (a_I M u 0).toInt = (n : Int) := by rw [← u0]; exact hn
      rw [u1] at g2
      obtain ⟨k1, k2, k3⟩ := nar_ok hL hJ hu hn9 u0 u1 hR.2.2.1 hR.2.2.2 g1.2.1 g2
      have hI := nar_i (v := v) g2
      refine ⟨y, y1, b, rg, hL', hJ', Rm_e hr h.2.1.1, by rw [g3]; exact Rn_nar hL hJ g2 k3 hR, h9', Or.inr ⟨u, ?_, ?_⟩⟩
      · have : a_P M' 113 3 = a_P M 113 3 := Fr_P h.2.1 (rg_at hL (a := 113) (by omega) (fun b => by cases b <;> rfl)) rfl
        rw [this]; exact hu
      · have hu9 := rg_12 hL (Or.inl (JM_u hJ hu).2.1)
        rw [g3]
        refine LiR_e (M := M) (fun a j e => hI a j (by omega)) ?_
        unfold LiR
        rw [hn9, show ((n : Nat) : Int).toNat = n by omega]
        have g12 := g1.1.2
        refine Or.inr ⟨by omega, Or.inr ⟨g1.2, 60000, k1, ?_⟩⟩
        rcases g4 with ⟨f1, f2⟩ | ⟨f1, f2⟩
        · rcases k2 with ⟨_, e, _⟩ | ⟨e, _⟩
          · rw [f1] at e; cases e
          · rw [e, f2]; rfl
        · rcases k2 with ⟨e, _, ag⟩ | ⟨_, e⟩
          · rw [e, f2]
            obtain ⟨z1, z2⟩ := ag x1.toInt.toNat (by omega)
            show (if x3 = 0 then (mSp M2).1 x1.toInt.toNat else (mSp M2).2 x1.toInt.toNat) = _
            rw [z1, z2]
            rfl
          · rw [f1] at e; cases e
theorem mw_lies {cd : Nat → Nat → Option aI} {z : Bool} (hz : ∀ m p i, cd0 z m p = some i → cd m p = some i) {q : Nat} {M : aM} {x : Int32} (x1 x2 x3 : Int32) (hI : LH q x1 x2 x3 M x) : wpS cd (39, [], 239, 0, la 0 [.inr (.inr (some 113)), .inl x1, .inl x2, .inl x3], [], M) (fun r M' => ∃ y, r = some (.inl y) ∧ x = y ∧ LZ q M') := by
  obtain ⟨b, rg, hL, hJ, hr, hR, h9, hP⟩ := hI
  have key : ∀ M', HQ b rg msSp M M' → LZ q M' := fun M' h => LZ_m hL hJ h.1.2.1 hr hR h9 h.1.1.1 h.1.2.2 (by decide +kernel) (by decide) (by decide) h.2
  rcases hP with ⟨hu, hx⟩ | ⟨u, hu, hx⟩
  · refine wpS_mono (r_lies0 hz hL hJ x1 x2 x3 (nvO_A (LB_nv (τ := id) hL) hu) (d := 38)) (fun r M' h => ?_)
    obtain ⟨y, y1, y2, y3⟩ := h
    exact ⟨y, y1, by rw [hx, y3], key M' y2⟩
  · refine wpS_mono (r_lies1 hz hL hJ x1 x2 x3 hu (d := 37)) (fun r M' h => ?_)
    obtain ⟨y, y1, y2, y3⟩ := h
    exact ⟨y, y1, LiR_q hx y3, key M' y2⟩
theorem xw_next {cd : Nat → Nat → Option aI} {z : Bool} (hz : ∀ m p i, cd0 z m p = some i → cd m p = some i) {q : Nat} {M : aM} (hI : LZ q M) (x1 : Int32) : wpS cd (39, [], 134, 0, la 0 [.inr (.inr (some 0)), .inl x1], [], M) (fun r M' => ∃ x, r = some (.inl x) ∧ NH q x1 M' x) := by
  have hct := hc_of hz
  obtain ⟨b, rg, hL, hJ, hr, hR, hW⟩ := hI
  have c0 := cur_0 hL
  obtain ⟨n, hn⟩ : ∃ n : Nat, (a_I M (cur b) 0).toInt = (n : Int) := ⟨(a_I M (cur b) 0).toInt.toNat, by omega⟩
  refine wpS_mono (wpS_and (cf_next hz hL x1 hn rfl (hok_of hL hJ hR.1.2.1 hR.2.2.1 hn) (d := 36)) (oXnext hct hL x1 (d := 39) (by omega))) (fun r M' h => ?_)
  obtain ⟨⟨y, y1, y2⟩, h⟩ := h
  have hL' := LB_fr hL h.1 h.2.1 (oXnext_p b)
  have hJ' := JM_fr hL hJ h.2.1 oXnext_j
  have h9' := sX_ok hL (by decide) h
  rcases y2 with ⟨g1, g2, v, g3⟩ | ⟨g1, M2, y2, v, g2, g3, g4⟩
  · have hI : ∀ a j, ¬ (a = 0 ∧ j = 9) → a_I M' a j = a_I M a j := fun a j e => by rw [g3]; exact aI_nk e
    refine ⟨y, y1, b, rg, hL', hJ', Rm_e hr h.2.1.1, by rw [g3]; exact Rn_9 hL hJ hR, h9', ?_⟩
    have hP : a_P M' 113 3 = a_P M 113 3 := by rw [g3]; rfl
    unfold NxP
    rw [hP]
    rcases hR.1.2.1 with ⟨e8, hu⟩ | ⟨e8, u, hu, u0, u1, _⟩
    · exact Or.inl ⟨hu, g2⟩
    · have hu9 := rg_12 hL (Or.inl (JM_u hJ hu).2.1)
      refine Or.inr ⟨u, hu, NxR_e (M := M) (fun a j e => hI a j (by omega)) (Or.inl ⟨?_, g2⟩)⟩
      by_cases ck : x1.toInt < 0 ∨ 99 < x1.toInt
      · exact ck
      · exact absurd ⟨by rw [e8]; decide, by omega, by omega⟩ g1
  · rcases hR.1.2.1 with ⟨e8, _⟩ | ⟨e8, u, hu, u0, u1, _⟩
    · exact absurd e8 g1.1
    · have hn9 : (a_I M u 0).toInt = (n : Int) := by rw [← u0]; exact hn
      rw [u1] at g2
      obtain ⟨k1, k2, k3⟩ := nar_ok hL hJ hu hn9 u0 u1 hR.2.2.1 hR.2.2.2 g1.2.1 g2
      have hI := nar_i (v := v) g2
      have hj := JM_u hJ hu
      obtain ⟨⟨n2, n3⟩, _⟩ := JS_in hL hj
      refine ⟨y, y1, b, rg, hL', hJ', Rm_e hr h.2.1.1, by rw [g3]; exact Rn_nar hL hJ g2 k3 hR, h9', Or.inr ⟨u, ?_, ?_⟩⟩
      · have : a_P M' 113 3 = a_P M 113 3 := Fr_P h.2.1 (rg_at hL (a := 113) (by omega) (fun b => by cases b <;> rfl)) rfl
        rw [this]; exact hu
      · have hu9 := rg_12 hL (Or.inl hj.2.1)
        rw [g3]
        refine NxR_e (M := M) (fun a j e => hI a j (by omega)) ?_
        unfold NxR
        rw [hn9, show ((n : Nat) : Int).toNat = n by omega]
        refine Or.inr ⟨g1.2, 60000, k1, ?_⟩
        rcases g4 with ⟨f1, f2⟩ | ⟨f1, f2⟩
        · rcases k2 with ⟨_, e, _⟩ | ⟨e, _⟩
          · rw [f1] at e; cases e
          · exact Or.inl ⟨e, f2⟩
        · rcases k2 with ⟨e, _, ag⟩ | ⟨_, e⟩
          · refine Or.inr ⟨e, ?_⟩
            rw [f2, ← wdI_ag ag (by omega) (by omega)]
            rfl
          · rw [f1] at e; cases e
theorem mw_next {cd : Nat → Nat → Option aI} {z : Bool} (hz : ∀ m p i, cd0 z m p = some i → cd m p = some i) {q : Nat} {M : aM} {x : Int32} (x1 : Int32) (hI : NH q x1 M x) : wpS cd (39, [], 240, 0, la 0 [.inr (.inr (some 113)), .inl x1], [], M) (fun r M' => ∃ y, r = some (.inl y) ∧ x = y ∧ LZ q M') := by
  obtain ⟨b, rg, hL, hJ, hr, hR, h9, hP⟩ := hI
  have key : ∀ M', HQ b rg msSp M M' → LZ q M' := fun M' h => LZ_m hL hJ h.1.2.1 hr hR h9 h.1.1.1 h.1.2.2 (by decide +kernel) (by decide) (by decide) h.2
  rcases hP with ⟨hu, hx⟩ | ⟨u, hu, hx⟩
  · refine wpS_mono (r_next0 hz hL hJ x1 (nvO_A (LB_nv (τ := id) hL) hu) (d := 38)) (fun r M' h => ?_)
    obtain ⟨y, y1, y2, y3⟩ := h
    exact ⟨y, y1, by rw [hx, y3], key M' y2⟩
  · refine wpS_mono (r_next1 hz hL hJ x1 hu (d := 37)) (fun r M' h => ?_)
    obtain ⟨y, y1, y2, y3⟩ := h
    exact ⟨y, y1, NxR_q hx y3, key M' y2⟩

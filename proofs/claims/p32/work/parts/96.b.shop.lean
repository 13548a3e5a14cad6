/-! feed, shop, led over the strong invariant: printed by wip/gen/strong2C.py -/
theorem LB_eq {b : Bool} {rg : Nat → Nat} {M M' : aM} {f : Nat → Nat → Bool} (hL : LB b rg M) (e : eqE f M M') (hf : ∀ a k, f a k = true → a < 137 ∧ (freeT (ysl RR (rgP b a) k) = true ∨ ∃ lo hi, ysl RR (rgP b a) k = .inl (lo, hi) ∧ lo ≤ (a_I M' a k).toInt ∧ (a_I M' a k).toInt ≤ hi)) : LB b rg M' := by
  obtain ⟨h1, h2, h3, h4, h5, h6, h7, h8⟩ := hL
  obtain ⟨⟨n1, n2, n3⟩, ⟨k1, k2, k3, k4⟩, hI⟩ := e
  refine ⟨⟨by rw [n1]; exact h1.1, fun a ha => ?_⟩, h2, fun a q1 q2 => h3 a q1 (by rw [← n1]; exact q2), by rw [n1]; exact h4, by rw [n1]; exact h5, fun q hq => by rw [k4]; exact h6 q hq, by rw [k4]; exact h7, by rw [k4]; exact h8⟩
  rw [n1] at ha ⊢
  obtain ⟨q1, q2, q3⟩ := h1.2 a ha
  refine ⟨by rw [k1]; exact q1, by rw [k2]; exact q2, fun k hk => ?_⟩
  have q3 := q3 k hk
  rw [k4]
  cases hc : f a k with
  | false => rw [hI a k hc]; exact q3
  | true =>
    obtain ⟨ha9, hv⟩ := hf a k hc
    rw [h2 a ha9] at q3 ⊢
    rcases hv with h | ⟨lo, hi, h, hb⟩
    · exact free_ok h q3
    · rw [h]; exact hb
theorem JM_eq {rg rg' : Nat → Nat} {M M' : aM} (hJ : JM rg M) (hn : a_n M' = a_n M) (hP : a_P M' 113 3 = a_P M 113 3) (h12 : ∀ a, rg a = 12 → rg' a = 12 ∧ ∀ k, a_I M' a k = a_I M a k) (h643 : ∀ a, rg' a = 643 → rg a = 643 ∧ ∀ k, a_I M' a k = a_I M a k) (h115 : a_I M' 115 7 = a_I M 115 7) (h31 : a_I M' 113 31 = a_I M 113 31) (h127 : ∀ k, a_I M' 127 k = a_I M 127 k) : JM rg' M' := by
  obtain ⟨j1, j2, j3⟩ := hJ
  have hd : dnM M' = dnM M := by unfold dnM; rw [h115]
  refine ⟨by rw [hd]; exact j1, ?_, fun k hk => ?_⟩
  · rw [hP]
    rcases j2 with e | ⟨u, e, u1, u2, u3, fr, u4, u5, u6, u7⟩
    · exact Or.inl e
    · obtain ⟨q1, q2⟩ := h12 u u2
      refine Or.inr ⟨u, e, by rw [hn]; exact u1, q1, by rw [hd, q2]; exact u3, fr, u4, u5, by rw [q2]; exact u6, fun w hw hr k hk => ?_⟩
      obtain ⟨p1, p2⟩ := h643 w hr
      rw [p2]
      exact u7 w (by rw [← hn]; exact hw) p1 k hk
  · rw [h31] at hk
    rw [hd, h127]
    exact j3 k hk
theorem fdF_T {t s b k n a j : Nat} (h : fdF t s b k n a j = true) : (a = t ∧ j = s) ∨ (a = b ∧ k ≤ j ∧ j < k + n) := by
  unfold fdF at h
  rcases (Bool.or_eq_true _ _).mp h with h | h
  · obtain ⟨h1, h2⟩ := (Bool.and_eq_true _ _).mp h
    exact Or.inl ⟨nbT h1, nbT h2⟩
  · obtain ⟨h1, h2⟩ := (Bool.and_eq_true _ _).mp h
    obtain ⟨h3, h4⟩ := (Bool.and_eq_true _ _).mp h2
    exact Or.inr ⟨nbT h1, Nat.le_of_ble_eq_true h3, blt_lt h4⟩
theorem rg_12 {b : Bool} {rg : Nat → Nat} {M : aM} (hL : LB b rg M) {a : Nat} (h : rg a = 12 ∨ rg a = 643) : ¬ a < 137 := fun q => by
  rw [hL.2.1 a q] at h
  rcases h with h | h
  · exact ch_S b ⟨a, q⟩ 12 (by decide) h
  · exact ch_S b ⟨a, q⟩ 643 (by decide) h
theorem JM_e {b : Bool} {rg : Nat → Nat} {M M' : aM} {f : Nat → Nat → Bool} (hL : LB b rg M) (hJ : JM rg M) (e : eqE f M M') (hf : ∀ a k, f a k = true → a < 137 ∧ a ≠ 115 ∧ a ≠ 127 ∧ ¬ (a = 113 ∧ k = 31)) : JM rg M' := by
  have hI : ∀ a k, ¬ (a < 137 ∧ a ≠ 115 ∧ a ≠ 127 ∧ ¬ (a = 113 ∧ k = 31)) → a_I M' a k = a_I M a k := fun a k q => e.2.2 a k (by
    cases hc : f a k with
    | false => rfl
    | true => exact absurd (hf a k hc) q)
  refine JM_eq hJ e.1.1 (by rw [e.2.1.2.2.2]) (fun a h => ⟨h, fun k => hI a k (fun q => rg_12 hL (Or.inl h) q.1)⟩) (fun a h => ⟨h, fun k => hI a k (fun q => rg_12 hL (Or.inr h) q.1)⟩) (hI 115 7 (by omega)) (hI 113 31 (by omega)) (fun k => hI 127 k (by omega))
theorem R2_i {b : Bool} {rg : Nat → Nat} {M M' : aM} (hL : LB b rg M) (hJ : JM rg M) (hI : ∀ a k, (a = 0 ∧ k = 8) ∨ a = cur b ∨ 137 ≤ a → a_I M' a k = a_I M a k) (hP : a_P M' 113 3 = a_P M 113 3) (h : R2 b M) : R2 b M' := by
  unfold R2
  rw [hI 0 8 (Or.inl ⟨rfl, rfl⟩), hP, hI (cur b) 0 (Or.inr (Or.inl rfl)), hI (cur b) 1 (Or.inr (Or.inl rfl)), hI (cur b) 2 (Or.inr (Or.inl rfl))]
  rcases h with h | ⟨h1, u, h2, h3, h4, h5⟩
  · exact Or.inl h
  · have hu := rg_12 hL (Or.inl (JM_u hJ h2).2.1)
    exact Or.inr ⟨h1, u, h2, by rw [hI u 0 (Or.inr (Or.inr (by omega)))]; exact h3, by rw [hI u 1 (Or.inr (Or.inr (by omega)))]; exact h4, by rw [hI u 2 (Or.inr (Or.inr (by omega)))]; exact h5⟩
theorem Wh_i {M M' : aM} (h1 : a_I M' 0 9 = a_I M 0 9) (h2 : a_I M' 0 11 = a_I M 0 11) (h3 : a_I M' 113 2 = a_I M 113 2) (h : Wh M) : Wh M' := by
  unfold Wh
  rw [h1, h2, h3]
  exact h
theorem cnt_0 {M : aM} (h : ∀ k, k < 30 → a_I M 96 k = 0) : ∀ {n : Nat}, n ≤ 30 → cnt M n = 0
  | 0, _ => rfl
  | n + 1, hn => by
    unfold cnt
    rw [cnt_0 h (by omega), if_pos (h n (by omega))]
theorem RX_i {b : Bool} {M M' : aM} (h : ∀ a k, (a = 52 ∨ a = 95 ∨ a = 96 ∨ a = 97 ∨ a = 98 ∨ a = 99 ∨ a = 100 ∨ a = 131 ∨ a = 132 ∨ a = 135 ∨ a = cur b) ∨ (a = 113 ∧ (k = 28 ∨ k = 37)) → a_I M' a k = a_I M a k) (hR : R5 M ∧ R6 M ∧ R7 b M) : R5 M' ∧ R6 M' ∧ R7 b M' := by
  refine ⟨?_, R6_i (fun a k e => h a k (by omega)) (h 113 37 (by omega)) hR.2.1, R7_i (fun a k e => h a k (by omega)) (h 95 5 (by omega)) (h 95 6 (by omega)) (fun k _ => h (cur b) k (by omega)) hR.2.2⟩
  unfold R5
  rw [h 52 4 (by omega), h 113 28 (by omega)]
  exact hR.1
theorem cur_v (b : Bool) : cur b = 4 ∨ cur b = 101 := by cases b <;> decide
/-- between the two feeds -/
def FH (q : Nat) (l : List Int32) (M : aM) (x : Int32) : Prop := ∃ b rg, LB b rg M ∧ JM rg M ∧ Rm q M ∧ (R2 b M ∧ R3 M ∧ Wh M ∧ (R5 M ∧ R6 M ∧ R7 b M)) ∧ ∃ k : Nat, (a_I M 113 6).toInt = (k : Int) ∧ ((680 < k ∧ R1 M ∧ x = -1) ∨ (k ≤ 680 ∧ (a_I M 2 1).toInt = (k : Int) + 20 ∧ x.toInt = (k : Int) + 20 ∧ ∀ j, a_I M 3 j = if k ≤ j ∧ j < k + 20 then l.getD (j - k) 0 else a_I M 114 j))
theorem xw_feed {cd : Nat → Nat → Option aI} {z : Bool} (hz : ∀ m p i, cd0 z m p = some i → cd m p = some i) {q : Nat} {M : aM} (hI : LZ q M) (x1 x2 x3 x4 x5 : Int32) : wpS cd (39, [], 104, 0, la 0 [.inr (.inr (some 0)), .inl x1, .inl x2, .inl x3, .inl x4, .inl x5], [], M) (fun r M' => ∃ x, r = some (.inl x) ∧ FH q (fd20 x1 x2 x3 x4 x5) M' x) := by
  have hct := hc_of hz
  obtain ⟨b, rg, hL, hJ, hr, ⟨⟨hT, h2, h3⟩, hX⟩, hW⟩ := hI
  have h21 := LB_21 hL
  obtain ⟨k, hk⟩ : ∃ k : Nat, (a_I M 2 1).toInt = (k : Int) := ⟨(a_I M 2 1).toInt.toNat, by omega⟩
  refine wpS_mono (c_feed hct (LB_nv (τ := id) hL) x1 x2 x3 x4 x5 hk (by omega) (d := 38)) (fun r M' h => ?_)
  obtain ⟨y, y1, h⟩ := h
  refine ⟨y, y1, ?_⟩
  rcases h with ⟨c1, c2, c3⟩ | ⟨c1, c2, c3, c4, c5⟩
  · subst c2
    exact ⟨b, rg, hL, hJ, hr, ⟨h2, h3, hW, hX⟩, k, by rw [← hT.1]; exact hk, Or.inl ⟨c1, hT, c3⟩⟩
  · have c4 : (a_I M' 2 1).toInt = ((k + 20 : Nat) : Int) := c4
    have c5 : ∀ j, j < 20 → a_I M' 3 (k + j) = (fd20 x1 x2 x3 x4 x5).getD j 0 := c5
    have ht := fun a j (h : fdF 2 1 3 k (fd20 x1 x2 x3 x4 x5).length a j = true) => fdF_T h
    have hI9 : ∀ a j, ¬ ((a = 2 ∧ j = 1) ∨ (a = 3 ∧ k ≤ j ∧ j < k + 20)) → a_I M' a j = a_I M a j := fun a j hn => c3.2.2 a j (by
      cases hc : fdF 2 1 3 k (fd20 x1 x2 x3 x4 x5).length a j with
      | false => rfl
      | true => exact absurd (ht _ _ hc) hn)
    have e6 : a_I M' 113 6 = a_I M 113 6 := hI9 113 6 (by omega)
    have hcu := cur_v b
    refine ⟨b, rg, LB_eq hL c3 (fun a j h => ?_), JM_e hL hJ c3 (fun a j h => by have := ht a j h; omega), Rm_e hr c3.1, ⟨R2_i hL hJ (fun a j h => hI9 a j (by omega)) (by rw [c3.2.1.2.2.2]) h2, ?_, Wh_i (hI9 0 9 (by omega)) (hI9 0 11 (by omega)) (hI9 113 2 (by omega)) hW, RX_i (fun a j h => hI9 a j (by omega)) hX⟩, k, by rw [e6, ← hT.1]; exact hk, Or.inr ⟨c1, by omega, by omega, fun j => ?_⟩⟩
    · rcases ht a j h with ⟨rfl, rfl⟩ | ⟨rfl, _⟩
      · exact ⟨by omega, Or.inr ⟨0, 700, by cases b <;> rfl, by omega, by omega⟩⟩
      · exact ⟨by omega, Or.inl (by rw [ysl_arr (by cases b <;> rfl)]; cases b <;> rfl)⟩
    · unfold R3
      rw [hI9 0 10 (by omega), hI9 113 13 (by omega)]; exact h3
    · by_cases e : k ≤ j ∧ j < k + 20
      · rw [if_pos e, ← c5 (j - k) (by omega), show k + (j - k) = j by omega]
      · rw [if_neg e, hI9 3 j (by omega), hI9 114 j (by omega)]; exact hT.2 j
theorem mw_feed {cd : Nat → Nat → Option aI} {z : Bool} (hz : ∀ m p i, cd0 z m p = some i → cd m p = some i) {q : Nat} {M : aM} {x : Int32} (x1 x2 x3 x4 x5 : Int32) (hI : FH q (fd20 x1 x2 x3 x4 x5) M x) : wpS cd (39, [], 180, 0, la 0 [.inr (.inr (some 113)), .inl x1, .inl x2, .inl x3, .inl x4, .inl x5], [], M) (fun r M' => ∃ y, r = some (.inl y) ∧ x = y ∧ LZ q M') := by
  have hct := hc_of hz
  obtain ⟨b, rg, hL, hJ, hr, ⟨h2, h3, hW, hX⟩, k, hk, hh⟩ := hI
  have h136 := LB_136 hL
  have hne : ∀ b : Bool, rgP b 113 ≠ 12 ∧ rgP b 113 ≠ 643 := by decide
  have hr3 : rg 113 ≠ 12 ∧ rg 113 ≠ 643 := by rw [hL.2.1 113 (by omega)]; exact hne b
  have hL0 : LB b rg (s_I M 113 0 0) := LB_s hL (by decide) (fun b => Or.inl (by cases b <;> rfl))
  have hJ0 : JM rg (s_I M 113 0 0) := JM_s hJ (by decide) hr3
  have hcu := cur_v b
  have hs : ∀ a j, ¬ (a = 113 ∧ j = 0) → a_I (s_I M 113 0 0) a j = a_I M a j := fun a j h => aI_nk h
  refine wpS_mono (r_feed hct (LB_nv (τ := id) hL) x1 x2 x3 x4 x5 hk (by omega) (d := 39)) (fun r M' h => ?_)
  obtain ⟨y, y1, h⟩ := h
  refine ⟨y, y1, ?_⟩
  rcases h with ⟨c1, c2, c3⟩ | ⟨c1, c2, c3, c4, c5⟩
  · subst c2
    rcases hh with ⟨d1, d2, d3⟩ | ⟨d1, d2, d3⟩
    · refine ⟨by rw [d3, c3], b, rg, hL0, hJ0, hr, ⟨⟨⟨?_, fun j => ?_⟩, R2_i hL hJ (fun a j h => hs a j (by omega)) rfl h2, ?_⟩, RX_i (fun a j h => hs a j (by omega)) hX⟩, Wh_i (hs 0 9 (by omega)) (hs 0 11 (by omega)) (hs 113 2 (by omega)) hW⟩
      · rw [hs 2 1 (by omega), hs 113 6 (by omega)]; exact d2.1
      · rw [hs 3 j (by omega), hs 114 j (by omega)]; exact d2.2 j
      · unfold R3; rw [hs 0 10 (by omega), hs 113 13 (by omega)]; exact h3
    · omega
  · have c4 : (a_I M' 113 6).toInt = ((k + 20 : Nat) : Int) := c4
    have c5 : ∀ j, j < 20 → a_I M' 114 (k + j) = (fd20 x1 x2 x3 x4 x5).getD j 0 := c5
    have ht := fun a j (h : fdF 113 6 114 k (fd20 x1 x2 x3 x4 x5).length a j = true) => fdF_T h
    have hI9 : ∀ a j, ¬ ((a = 113 ∧ (j = 6 ∨ j = 0)) ∨ (a = 114 ∧ k ≤ j ∧ j < k + 20)) → a_I M' a j = a_I M a j := fun a j hn => (c3.2.2 a j (by
      cases hc : fdF 113 6 114 k (fd20 x1 x2 x3 x4 x5).length a j with
      | false => rfl
      | true => have := ht _ _ hc; omega)).trans (hs a j (by omega))
    have e6 : a_I M' 2 1 = a_I M 2 1 := hI9 2 1 (by omega)
    rcases hh with ⟨d1, d2, d3⟩ | ⟨d1, d2, d3, d4⟩
    · omega
    · refine ⟨Int32.toInt_inj.mp (by omega), b, rg, LB_eq hL0 c3 (fun a j h => ?_), JM_e hL0 hJ0 c3 (fun a j h => by have := ht a j h; omega), Rm_e (M := s_I M 113 0 0) hr c3.1, ⟨⟨⟨Int32.toInt_inj.mp (by rw [e6]; omega), fun j => ?_⟩, R2_i hL hJ (fun a j h => hI9 a j (by omega)) (by rw [c3.2.1.2.2.2]; rfl) h2, ?_⟩, RX_i (fun a j h => hI9 a j (by omega)) hX⟩, Wh_i (hI9 0 9 (by omega)) (hI9 0 11 (by omega)) (hI9 113 2 (by omega)) hW⟩
      · rcases ht a j h with ⟨rfl, rfl⟩ | ⟨rfl, _⟩
        · exact ⟨by omega, Or.inr ⟨0, 700, by cases b <;> rfl, by omega, by omega⟩⟩
        · exact ⟨by omega, Or.inl (by rw [ysl_arr (by cases b <;> rfl)]; cases b <;> rfl)⟩
      · rw [hI9 3 j (by omega), d4 j]
        by_cases e : k ≤ j ∧ j < k + 20
        · rw [if_pos e, ← c5 (j - k) (by omega), show k + (j - k) = j by omega]
        · rw [if_neg e, hI9 114 j (by omega)]
      · unfold R3
        rw [hI9 0 10 (by omega), hI9 113 13 (by omega)]; exact h3
/-- between the two shops -/
def SH (q : Nat) (n : Int32) (M : aM) (x : Int32) : Prop := ∃ b rg, LB b rg M ∧ JM rg M ∧ Rm q M ∧ (∀ k, a_I M 3 k = a_I M 114 k) ∧ (((n.toInt < 0 ∨ (a_I M 113 6).toInt < n.toInt) ∧ Rn b M ∧ a_I M 0 9 ≠ 4 ∧ x = -1) ∨ ((0 ≤ n.toInt ∧ n.toInt ≤ (a_I M 113 6).toInt) ∧ a_I M 2 1 = 0 ∧ ((∃ f, shM (shB M) n.toInt.toNat = .inr f ∧ x = -1 ∧ (R2 b M ∧ (R5 M ∧ R6 M ∧ R7 b M)) ∧ a_I M 0 9 = 4 ∧ (a_I M 0 10).toInt = (f.1 : Int) ∧ (a_I M 0 11).toInt = (f.2 : Int)) ∨ ∃ p, shM (shB M) n.toInt.toNat = .inl p ∧ x.toInt = (l_wy (shL (shB M) n.toInt.toNat) : Int) ∧ a_I M 0 9 = 0 ∧ a_I M 0 10 = 0 ∧ a_I M 0 8 = 1 ∧ (a_I M (cur b) 0).toInt = l_in (shL (shB M) n.toInt.toNat) ∧ (a_I M (cur b) 1).toInt = (shL (shB M) n.toInt.toNat).1.2.1 ∧ (a_I M (cur b) 2).toInt = (shL (shB M) n.toInt.toNat).1.2.2 ∧ (∀ k, k < 30 → a_I M 96 k = 0) ∧ a_I M 52 4 = 0 ∧ a_I M 95 5 = -1)))
theorem JM_K {b b' : Bool} {rg rg' : Nat → Nat} {M M' : aM} (hL : LB b rg M) (hL' : LB b' rg' M') (hJ : JM rg M) (hF : FrK M M') (hg : ∀ a, 137 ≤ a → rg' a = rg a) : JM rg' M' := by
  have hI : ∀ a k, 113 ≤ a → a_I M' a k = a_I M a k := fun a k h => (hF.2.2.2 a h k).1
  refine JM_eq hJ hF.1.1 (hF.2.2.2 113 (by omega) 3).2.2 (fun a h => ?_) (fun a h => ?_) (hI 115 7 (by omega)) (hI 113 31 (by omega)) (fun k => hI 127 k (by omega))
  · have := rg_12 hL (Or.inl h)
    exact ⟨(hg a (by omega)).trans h, fun k => hI a k (by omega)⟩
  · have := rg_12 hL' (Or.inr h)
    exact ⟨(hg a (by omega)).symm.trans h, fun k => hI a k (by omega)⟩
theorem xw_shop {cd : Nat → Nat → Option aI} {z : Bool} (hz : ∀ m p i, cd0 z m p = some i → cd m p = some i) {q : Nat} {M : aM} (hI : LZ q M) (x1 : Int32) : wpS cd (39, [], 105, 0, la 0 [.inr (.inr (some 0)), .inl x1], [], M) (fun r M' => ∃ x, r = some (.inl x) ∧ SH q x1 M' x) := by
  obtain ⟨b, rg, hL, hJ, hr, ⟨⟨hT, h2, h3⟩, hX⟩, hW⟩ := hI
  refine wpS_mono (oX_shpD hz hL (n := x1) (d := 29)) (fun r M' h => ?_)
  obtain ⟨y, y1, hF, h⟩ := h
  refine ⟨y, y1, ?_⟩
  have hI9 : ∀ a k, 113 ≤ a → a_I M' a k = a_I M a k := fun a k h => (hF.2.2.2 a h k).1
  have h6 : a_I M' 113 6 = a_I M 113 6 := hI9 113 6 (by omega)
  have h3P : a_P M' 113 3 = a_P M 113 3 := (hF.2.2.2 113 (by omega) 3).2.2
  have h114 : ∀ k, a_I M' 3 k = a_I M' 114 k := fun k => by rw [hF.2.2.1 k, hI9 114 k (by omega)]; exact hT.2 k
  have hB : shB M' = clB M := funext fun k => by
    show (a_I M' 114 k &&& 255).toInt = (a_I M 3 k &&& 255).toInt
    rw [hI9 114 k (by omega), hT.2 k]
  have hcu := cur_v b
  rcases h with ⟨c1, c2, c3, c4⟩ | ⟨lim, ⟨l1, l2⟩, l3, h⟩
  · have hs : ∀ a j, ¬ (a = 0 ∧ j = 9) → a_I M' a j = a_I M a j := fun a j h => by rw [c4]; exact aI_nk h
    refine ⟨b, rg, c3, JM_K hL c3 hJ hF (fun _ _ => rfl), Rm_e hr hF.1, h114, Or.inl ⟨by rw [h6, ← hT.1]; exact c1, ⟨⟨⟨?_, h114⟩, R2_i hL hJ (fun a j h => hs a j (by omega)) h3P h2, ?_⟩, RX_i (fun a j h => hs a j (by omega)) hX⟩, ?_, c2⟩⟩
    · rw [hs 2 1 (by omega), h6]; exact hT.1
    · unfold R3; rw [hs 0 10 (by omega), hs 113 13 (by omega)]; exact h3
    · rw [c4, aI_at]; decide
  · have hlim : x1.toInt.toNat = lim := by omega
    have hg : 0 ≤ x1.toInt ∧ x1.toInt ≤ (a_I M' 113 6).toInt := by rw [h6, ← hT.1]; omega
    rcases h with ⟨f, f1, f2, c3, c4, c5, c6, c7, c8, cX⟩ | ⟨p, f1, f2, c3, c4, c5, c6, ⟨c7, c8, c9, _⟩, cY⟩
    · refine ⟨b, rg, c3, JM_K hL c3 hJ hF (fun _ _ => rfl), Rm_e hr hF.1, h114, Or.inr ⟨hg, l3, Or.inl ⟨f, by rw [hB, hlim]; exact f1, f2, ⟨R2_i hL hJ (fun a j h => ?_) h3P h2, RX_i (fun a j h => ?_) hX⟩, c4, c5, c6⟩⟩⟩
      · rcases h with ⟨rfl, rfl⟩ | rfl | h
        · exact c7
        · exact c8 j
        · exact hI9 a j (by omega)
      · obtain ⟨k1, k2, k3, k4, k5, k6, k7⟩ := cX j
        rcases h with h | h
        · rcases h with rfl | rfl | rfl | rfl | rfl | rfl | rfl | h
          · exact k7
          · exact k6
          · exact k1
          · exact k2
          · exact k3
          · exact k4
          · exact k5
          · by_cases e : a = cur b
            · rw [e]; exact c8 j
            · exact hI9 a j (by omega)
        · exact hI9 a j (by omega)
    · have ht : cur (!b) = tld b := by cases b <;> rfl
      refine ⟨!b, rgX b rg, c3, JM_K hL c3 hJ hF (fun a ha => rgX_hi (by omega)), Rm_e hr hF.1, h114, Or.inr ⟨hg, l3, Or.inr ⟨p, by rw [hB, hlim]; exact f1, by rw [hB, hlim]; exact f2, c4, c5, c6, ?_, ?_, ?_, cY⟩⟩⟩
      · rw [ht, hB, hlim]; exact c7
      · rw [ht, hB, hlim]; exact c8
      · rw [ht, hB, hlim]; exact c9
theorem mw_shop {cd : Nat → Nat → Option aI} {z : Bool} (hz : ∀ m p i, cd0 z m p = some i → cd m p = some i) {q : Nat} {M : aM} (hq : q ≤ 600) {x1 x : Int32} (hI : SH q x1 M x) : wpS cd (39, [], 181, 0, la 0 [.inr (.inr (some 113)), .inl x1], [], M) (fun r M' => ∃ y, r = some (.inl y) ∧ x = y ∧ LZ (q + 1) M') := by
  obtain ⟨b, rg, hL, hJ, hr, hB, hh⟩ := hI
  obtain ⟨r1, r2, r3⟩ := hr
  have h137 := hL.2.2.2.2.1
  have hcu := cur_v b
  refine wpS_mono (oM_shop hz hL hJ (by show _ < (1000000000 : Nat); omega) (n := x1) (d := 26)) (fun r M' h => ?_)
  obtain ⟨y, y1, ⟨rg', hL', hJ'⟩, ⟨n1, n2, n3⟩, h⟩ := h
  have key : x = y ∧ Rn b M' ∧ Wh M' → x = y ∧ LZ (q + 1) M' := fun k => ⟨k.1, b, rg', hL', hJ', ⟨by omega, by omega, by omega⟩, k.2.1, k.2.2⟩
  refine ⟨y, y1, key ?_⟩
  rcases h with ⟨c1, c2, c3⟩ | ⟨c1, c2⟩
  · rcases hh with ⟨_, ⟨⟨d1, d2, d3⟩, dX⟩, d4, d5⟩ | ⟨d1, _⟩
    · have hs : ∀ a j, ¬ (a = 113 ∧ j < 3) → a_I M' a j = a_I M a j := fun a j h => by
        rw [c3, aI_nk (by omega), aI_nk (by omega), aI_nk (by omega)]
      refine ⟨by rw [d5, c2], ⟨⟨⟨?_, fun j => ?_⟩, R2_i hL hJ (fun a j h => hs a j (by omega)) (by rw [c3]; rfl) d2, ?_⟩, RX_i (fun a j h => hs a j (by omega)) dX⟩, Wh_set (by rw [hs 0 9 (by omega)]; exact d4) (by rw [c3]; exact aI_at)⟩
      · rw [hs 2 1 (by omega), hs 113 6 (by omega)]; exact d1.1
      · rw [hs 3 j (by omega), hs 114 j (by omega)]; exact hB j
      · unfold R3; rw [hs 0 10 (by omega), hs 113 13 (by omega)]; exact d3
    · omega
  · rcases hh with ⟨d1, _⟩ | ⟨_, d2, d3⟩
    · omega
    · obtain ⟨_, h6, _, hc⟩ := c2
      rcases hc with ⟨e, p, f1, f2, f3, f4, f5, f6, f7, f8⟩ | ⟨p, f1, f2, f3, ⟨f4, f5, f6⟩, f7, ⟨f8, _, _⟩, fz, _, f135⟩
      · have hs : ∀ a j, a ≠ 113 → a < a_n M → a_I M' a j = a_I M a j := fun a j h1 h2 => f3.2.1 a j h2 (by unfold gSf; rw [nbF h1]; rfl)
        rcases d3 with ⟨f, g1, g2, ⟨g3, gX⟩, g4, g5, g6⟩ | ⟨w, g1, _⟩
        · rw [f1] at g1
          cases g1
          have hs9 : ∀ j, 15 ≤ j → a_I M' 113 j = a_I M 113 j := fun j hj => f3.2.1 113 j (by omega) (by unfold gSf; rw [show Nat.ble j 2 = false from Bool.eq_false_iff.mpr (fun q => by have := Nat.le_of_ble_eq_true q; omega), show Nat.ble j 14 = false from Bool.eq_false_iff.mpr (fun q => by have := Nat.le_of_ble_eq_true q; omega)]; simp)
          refine ⟨by rw [g2, f2], ⟨⟨⟨?_, fun j => ?_⟩, ?_, ?_⟩, RX_i (fun a j h => ?_) gX⟩, ?_⟩
          · rw [hs 2 1 (by omega) (by omega), d2, h6]
          · rw [hs 3 j (by omega) (by omega), hs 114 j (by omega) (by omega)]; exact hB j
          · unfold R2
            rw [hs 0 8 (by omega) (by omega), f4, hs (cur b) 0 (by omega) (by omega), hs (cur b) 1 (by omega) (by omega), hs (cur b) 2 (by omega) (by omega)]
            rcases g3 with g3 | ⟨k1, u, k2, k3, k4, k5⟩
            · exact Or.inl g3
            · have hu := JM_u hJ k2
              have hu9 := rg_12 hL (Or.inl hu.2.1)
              have hu1 := hu.1
              exact Or.inr ⟨k1, u, k2, by rw [hs u 0 (by omega) hu1]; exact k3, by rw [hs u 1 (by omega) hu1]; exact k4, by rw [hs u 2 (by omega) hu1]; exact k5⟩
          · unfold R3
            rw [hs 0 10 (by omega) (by omega)]
            exact Int32.toInt_inj.mp (by rw [g5, f5])
          · by_cases e : a = 113
            · subst e; exact hs9 j (by omega)
            · exact hs a j e (by omega)
          · unfold Wh
            rw [hs 0 9 (by omega) (by omega), if_pos g4, hs 0 11 (by omega) (by omega)]
            exact Int32.toInt_inj.mp (by rw [g6, f8])
        · rw [f1] at g1; cases g1
      · have hs : ∀ a j, a < 113 → a_I M' a j = a_I M a j := fun a j h1 => f2.2.1 a j (by omega) (gSt_A (by
          show [113, 115, 131, 132, 135].any (Nat.beq a) = false
          simp only [List.any_cons, List.any_nil]
          rw [nbF (show a ≠ 113 by omega), nbF (show a ≠ 115 by omega), nbF (show a ≠ 131 by omega), nbF (show a ≠ 132 by omega), nbF (show a ≠ 135 by omega)]
          rfl))
        have hs4 : ∀ j, a_I M' 114 j = a_I M 114 j := fun j => f2.2.1 114 j (by omega) (gSt_A rfl)
        rcases d3 with ⟨f, g1, _⟩ | ⟨w, g1, g2, g3, g4, g5, g6, g7, g8, gY, gZ, gW⟩
        · rw [f1] at g1; cases g1
        · obtain ⟨⟨a1, a2, a3, _⟩, _⟩ := f8
          refine ⟨Int32.toInt_inj.mp (by rw [g2, f7]), ⟨⟨⟨?_, fun j => ?_⟩, Or.inr ⟨?_, a_n M, f3, ?_, ?_, ?_⟩, ?_⟩, ?_, ⟨fun k hk => ?_, ?_⟩, Or.inl ?_⟩, Wh_set (by rw [hs 0 9 (by omega), g3]; decide) f6⟩
          · rw [hs 2 1 (by omega), d2, h6]
          · rw [hs 3 j (by omega), hs4]; exact hB j
          · rw [hs 0 8 (by omega)]; exact g5
          · rw [hs (cur b) 0 (by omega)]; exact Int32.toInt_inj.mp (by rw [g6, a1])
          · rw [hs (cur b) 1 (by omega)]; exact Int32.toInt_inj.mp (by rw [g7, a2])
          · rw [hs (cur b) 2 (by omega)]; exact Int32.toInt_inj.mp (by rw [g8, a3])
          · unfold R3; rw [hs 0 10 (by omega), g4, f4]
          · unfold R5; rw [hs 52 4 (by omega), gZ, fz.2.2.1]
          · rw [hs 96 k (by omega), gY k hk, f135 k hk]; exact ⟨rfl, Or.inl rfl⟩
          · rw [fz.2.2.2.2.2, cnt_0 (fun k hk => by rw [hs 96 k (by omega)]; exact gY k hk) (Nat.le_refl _)]; rfl
          · rw [hs 95 5 (by omega)]; exact gW
theorem LZ_up {q : Nat} {M : aM} (h : LZ q M) : LZ (q + 1) M := by
  obtain ⟨b, rg, hL, hJ, ⟨h1, h2, h3⟩, hR⟩ := h
  exact ⟨b, rg, hL, hJ, ⟨by omega, by omega, by omega⟩, hR⟩
theorem LZ_led {q : Nat} {M M' : aM} (h : LZ q M) (e : M' = a_bmp M ∨ ∃ w, M' = s_J M 136 0 w) : LZ (q + 1) M' := by
  obtain ⟨b, rg, hL, hJ, ⟨h1, h2, h3⟩, hR⟩ := h
  rcases e with rfl | ⟨w, rfl⟩
  · exact ⟨b, rg, hL, hJ, ⟨by show a_n M ≤ _; omega, by show a_c M + 1 ≤ _; omega, by show a_z M + 6 ≤ _; omega⟩, hR⟩
  · exact ⟨b, rg, hL, hJ, ⟨by show a_n M ≤ _; omega, by show a_c M ≤ _; omega, by show a_z M ≤ _; omega⟩, hR⟩

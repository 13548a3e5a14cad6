/-! The class's shop over the invariant: printed by wip/gen/clspe.py -/
theorem aI_sP9 {M : aM} {a k b j : Nat} {v : Option Nat} : a_I (s_P M a k v) b j = a_I M b j := rfl
def FrK (M M' : aM) : Prop := (a_n M' = a_n M ∧ a_z M' = a_z M ∧ a_c M' = a_c M) ∧ (a_K M' = a_K M ∧ a_N M' = a_N M) ∧ (∀ k, a_I M' 3 k = a_I M 3 k) ∧ ∀ a, 113 ≤ a → ∀ k, a_I M' a k = a_I M a k ∧ a_J M' a k = a_J M a k ∧ a_P M' a k = a_P M a k
theorem FrK_rf {M : aM} : FrK M M := ⟨⟨rfl, rfl, rfl⟩, ⟨rfl, rfl⟩, fun _ => rfl, fun _ _ _ => ⟨rfl, rfl, rfl⟩⟩
theorem FrK_s {M M1 : aM} {x y : Nat} {v : Int32} (hx : x < 113) (h3 : x ≠ 3) (h : FrK M M1) : FrK M (s_I M1 x y v) := ⟨h.1, h.2.1, fun k => by rw [aI_nk (fun q => h3 q.1.symm)]; exact h.2.2.1 k, fun a ha k => ⟨by rw [aI_nk (fun q => by omega)]; exact (h.2.2.2 a ha k).1, (h.2.2.2 a ha k).2⟩⟩
theorem FrK_p {M M1 : aM} {x y : Nat} {v : Option Nat} (hx : x < 113) (h : FrK M M1) : FrK M (s_P M1 x y v) := ⟨h.1, h.2.1, h.2.2.1, fun a ha k => ⟨(h.2.2.2 a ha k).1, (h.2.2.2 a ha k).2.1, by rw [aP_sP, if_neg (fun q => by omega)]; exact (h.2.2.2 a ha k).2.2⟩⟩
theorem FrK_e {f : Nat → Nat → Bool} {M M1 M2 : aM} (h3 : ∀ k, f 3 k = false) (hf : ∀ a k, 113 ≤ a → f a k = false) (h : FrK M M1) (q : eqE f M1 M2) : FrK M M2 := by
  obtain ⟨⟨q1, q2, q3⟩, ⟨q4, q5, q6, q7⟩, q8⟩ := q
  refine ⟨⟨q1.trans h.1.1, q2.trans h.1.2.1, q3.trans h.1.2.2⟩, ⟨q4.trans h.2.1.1, q5.trans h.2.1.2⟩, fun k => (q8 3 k (h3 k)).trans (h.2.2.1 k), fun a ha k => ⟨(q8 a k (hf a k ha)).trans (h.2.2.2 a ha k).1, ?_, ?_⟩⟩
  · rw [q6]; exact (h.2.2.2 a ha k).2.1
  · rw [q7]; exact (h.2.2.2 a ha k).2.2
theorem fLo_113 {b : Bool} {a : Nat} (h : 113 ≤ a) : fLo b a = false := by
  have ht : tld b + 11 < 113 := by cases b <;> decide
  cases e : fLo b a with
  | false => rfl
  | true =>
    exfalso
    rcases (Bool.or_eq_true _ _).mp e with h | h
    · rcases (Bool.or_eq_true _ _).mp h with h | h
      · have := nbT h; omega
      · have := nbT h; omega
    · rcases (Bool.or_eq_true _ _).mp h with h | h
      · have := Nat.le_of_ble_eq_true ((Bool.and_eq_true _ _).mp h).2; omega
      · have := Nat.le_of_ble_eq_true ((Bool.and_eq_true _ _).mp h).2; omega
theorem FrK_L {b : Bool} {M M1 : aM} (q : eqE (fL (tld b)) M M1) : FrK M M1 := FrK_e (fun k => fL_o (by cases b <;> rfl)) (fun a k h => fL_o (fLo_113 h)) FrK_rf q
theorem FrK_I {M M1 M2 : aM} (h : FrK M M1) (q : eqE fI M1 M2) : FrK M M2 := FrK_e (fun _ => rfl) (fun a k h => nbF (by omega)) h q
/-- the class's shop: what it answers and leaves -/
def ShC (b : Bool) (rg : Nat → Nat) (n : Int32) (M M' : aM) (y : Int32) : Prop := FrK M M' ∧ (((n.toInt < 0 ∨ (a_I M 2 1).toInt < n.toInt) ∧ y = -1 ∧ LB b rg M' ∧ M' = s_I M 0 9 2) ∨ ∃ lim : Nat, (n.toInt = (lim : Int) ∧ (lim : Int) ≤ (a_I M 2 1).toInt) ∧ a_I M' 2 1 = 0 ∧ ((∃ f, shM (clB M) lim = .inr f ∧ y = -1 ∧ LB b rg M' ∧ a_I M' 0 9 = 4 ∧ (a_I M' 0 10).toInt = (f.1 : Int) ∧ (a_I M' 0 11).toInt = (f.2 : Int) ∧ a_I M' 0 8 = a_I M 0 8 ∧ (∀ k, a_I M' (cur b) k = a_I M (cur b) k) ∧ ∀ k, a_I M' 96 k = a_I M 96 k) ∨ ∃ p, shM (clB M) lim = .inl p ∧ y.toInt = (l_wy (shL (clB M) lim) : Int) ∧ LB (!b) (rgX b rg) M' ∧ a_I M' 0 9 = 0 ∧ a_I M' 0 10 = 0 ∧ a_I M' 0 8 = 1 ∧ ((a_I M' (tld b) 0).toInt = l_in (shL (clB M) lim) ∧ (a_I M' (tld b) 1).toInt = (shL (clB M) lim).1.2.1 ∧ (a_I M' (tld b) 2).toInt = (shL (clB M) lim).1.2.2 ∧ (a_I M' (tld b) 10).toInt = (l_wy (shL (clB M) lim) : Int)) ∧ (∀ k, k < 30 → a_I M' 96 k = 0) ∧ a_I M' 52 4 = 0))
theorem LB_21 {b : Bool} {rg : Nat → Nat} {M : aM} (hL : LB b rg M) : 0 ≤ (a_I M 2 1).toInt ∧ (a_I M 2 1).toInt ≤ 700 := LB_ty hL (by decide) (by cases b <;> rfl) (by cases b <;> rfl)
set_option maxHeartbeats 4000000 in
theorem oX_shop_false {cd : Nat → Nat → Option aI} {z : Bool} (hz : ∀ m p i, cd0 z m p = some i → cd m p = some i) {rg : Nat → Nat} {M : aM} (hL : LB false rg M) {n : Int32} {d : Nat} : wpS cd (d + 10, [], 105, 0, la 0 [.inr (.inr (some 0)), .inl n], [], M) (fun r M' => ∃ y, r = some (.inl y) ∧ ShC false rg n M M' y) := by
  have h21 := LB_21 hL
  obtain ⟨k, hk⟩ : ∃ k : Nat, (a_I M 2 1).toInt = (k : Int) := ⟨(a_I M 2 1).toInt.toNat, by omega⟩
  have P9 : PrC 4 (clB M) M M := LB_Pr (b := false) hL
  have D9 : nv_A (nvD 101 4) (tauC 4) M := LB_nvD (b := false) hL
  have h9 := c_shop4 (n := n) (d := d) hz P9 D9 hk (by omega)
  refine wpS_mono h9 (fun r M' h => ?_)
  obtain ⟨y, hr, h⟩ := h
  refine ⟨y, hr, ?_⟩
  rcases h with ⟨c1, c2, c3⟩ | ⟨lim, M1, v, ⟨l1, l2, l3⟩, ⟨E1, S1, T1, Q1⟩, h⟩
  · subst c3
    refine ⟨FrK_s (by decide) (by decide) FrK_rf, Or.inl ⟨?_, c2, LB_s hL (by decide) (fun b => Or.inl (by cases b <;> rfl)), rfl⟩⟩
    rw [hk]; exact c1
  · have L1 := LB_rd (b := false) hL E1 S1 T1 Q1
    rcases h with ⟨f, f1, f2, f3⟩ | ⟨p, N, g1, g2, g3, g4, g5, g6⟩
    · subst f3
      rw [f1] at S1
      obtain ⟨_, _, s1, s2, _⟩ := S1
      have s1 : (a_I M1 1 13).toInt = (f.1 : Int) := s1
      refine ⟨FrK_s (by decide) (by decide) (FrK_s (by decide) (by decide) (FrK_s (by decide) (by decide) (FrK_s (by decide) (by decide) (FrK_L (b := false) Q1)))), Or.inr ⟨lim, ⟨l1, by rw [hk]; omega⟩, rfl, Or.inl ⟨f, f1, f2, LB_bad L1, rfl, ?_, s2, ?_, fun k => ?_, fun k => ?_⟩⟩⟩
      · show v.toInt = _; rw [l3]; exact s1
      · exact Q1.2.2 0 8 rfl
      · exact Q1.2.2 101 k (fL_o (b := false) rfl)
      · exact Q1.2.2 96 k (fL_o (b := false) rfl)
    · subst g6
      have hlk := endM_l (show endM (clB M) lim (lnsF (clB M) lim 701 L0 0).1 (lnsF (clB M) lim 701 L0 0).2 = .inl p from g1)
      rw [g1] at S1
      have h13 := (Sc_p S1).2
      have hn : ∀ a j, a ≠ 96 → a_I N a j = _ := fun a j e => g3.2.2 a j (nbF e)
      rcases g2.1 with ⟨_, z2⟩ | ⟨_, ⟨z2, z3, z4⟩, z5, z6⟩
      · exfalso
        have : lacks (shL (clB M) lim) = true := by unfold lacks; rw [decide_eq_true z2]; rfl
        rw [show lacks (shL (clB M) lim) = false from hlk] at this
        cases this
      · have hw := g2.2.2.1.1.1
        refine ⟨FrK_s (by decide) (by decide) (FrK_s (by decide) (by decide) (FrK_I (FrK_s (by decide) (by decide) (FrK_s (by decide) (by decide) (FrK_s (by decide) (by decide) (FrK_s (by decide) (by decide) (FrK_s (by decide) (by decide) (FrK_s (by decide) (by decide) (FrK_s (by decide) (by decide) (FrK_s (by decide) (by decide) (FrK_s (by decide) (by decide) (FrK_s (by decide) (by decide) (FrK_s (by decide) (by decide) (FrK_s (by decide) (by decide) (FrK_s (by decide) (by decide) (FrK_s (by decide) (by decide) (FrK_s (by decide) (by decide) (FrK_s (by decide) (by decide) (FrK_s (by decide) (by decide) (FrK_s (by decide) (by decide) (FrK_p (by decide) (FrK_p (by decide) (FrK_s (by decide) (by decide) (FrK_s (by decide) (by decide) (FrK_s (by decide) (by decide) (FrK_L (b := false) Q1)))))))))))))))))))))))) g3)), Or.inr ⟨lim, ⟨l1, by rw [hk]; omega⟩, ?_, Or.inr ⟨p, g1, ?_, LB_good (b := false) L1 ⟨?_, ?_⟩ g3, rfl, ?_, ?_, ⟨?_, ?_, ?_, ?_⟩, fun k hk => g4 k hk, ?_⟩⟩⟩
        · rw [aI_nk (fun q => by omega), aI_nk (fun q => by omega), hn 2 1 (by decide)]
          repeat (first | rw [aI_nk (fun q => by omega)] | rw [aI_sP9])
          exact aI_at
        · rw [g5, hn 4 10 (by decide)]
          repeat (first | rw [aI_nk (fun q => by omega)] | rw [aI_sP9])
          exact hw
        · show 0 ≤ (a_I M1 4 0).toInt; omega
        · show (a_I M1 4 0).toInt ≤ 30; omega
        · rw [aI_nk (fun q => by omega), aI_nk (fun q => by omega), hn 0 10 (by decide)]
          repeat (first | rw [aI_nk (fun q => by omega)] | rw [aI_sP9])
          rw [aI_at]; exact l3.trans h13
        · rw [aI_nk (fun q => by omega), aI_nk (fun q => by omega), hn 0 8 (by decide)]
          repeat (first | rw [aI_nk (fun q => by omega)] | rw [aI_sP9])
          exact aI_at
        · show (a_I _ 4 0).toInt = _
          rw [aI_nk (fun q => by omega), aI_nk (fun q => by omega), hn 4 0 (by decide)]
          repeat (first | rw [aI_nk (fun q => by omega)] | rw [aI_sP9])
          exact z2
        · show (a_I _ 4 1).toInt = _
          rw [aI_nk (fun q => by omega), aI_nk (fun q => by omega), hn 4 1 (by decide)]
          repeat (first | rw [aI_nk (fun q => by omega)] | rw [aI_sP9])
          exact z3
        · show (a_I _ 4 2).toInt = _
          rw [aI_nk (fun q => by omega), aI_nk (fun q => by omega), hn 4 2 (by decide)]
          repeat (first | rw [aI_nk (fun q => by omega)] | rw [aI_sP9])
          exact z4
        · show (a_I _ 4 10).toInt = _
          rw [aI_nk (fun q => by omega), aI_nk (fun q => by omega), hn 4 10 (by decide)]
          repeat (first | rw [aI_nk (fun q => by omega)] | rw [aI_sP9])
          exact hw
        · rw [aI_nk (fun q => by omega), aI_nk (fun q => by omega), hn 52 4 (by decide)]
          repeat (first | rw [aI_nk (fun q => by omega)] | rw [aI_sP9])
          exact aI_at
set_option maxHeartbeats 4000000 in
theorem oX_shop_true {cd : Nat → Nat → Option aI} {z : Bool} (hz : ∀ m p i, cd0 z m p = some i → cd m p = some i) {rg : Nat → Nat} {M : aM} (hL : LB true rg M) {n : Int32} {d : Nat} : wpS cd (d + 10, [], 105, 0, la 0 [.inr (.inr (some 0)), .inl n], [], M) (fun r M' => ∃ y, r = some (.inl y) ∧ ShC true rg n M M' y) := by
  have h21 := LB_21 hL
  obtain ⟨k, hk⟩ : ∃ k : Nat, (a_I M 2 1).toInt = (k : Int) := ⟨(a_I M 2 1).toInt.toNat, by omega⟩
  have P9 : PrC 101 (clB M) M M := LB_Pr (b := true) hL
  have D9 : nv_A (nvD 4 101) (tauC 101) M := LB_nvD (b := true) hL
  have h9 := c_shop101 (n := n) (d := d) hz P9 D9 hk (by omega)
  refine wpS_mono h9 (fun r M' h => ?_)
  obtain ⟨y, hr, h⟩ := h
  refine ⟨y, hr, ?_⟩
  rcases h with ⟨c1, c2, c3⟩ | ⟨lim, M1, v, ⟨l1, l2, l3⟩, ⟨E1, S1, T1, Q1⟩, h⟩
  · subst c3
    refine ⟨FrK_s (by decide) (by decide) FrK_rf, Or.inl ⟨?_, c2, LB_s hL (by decide) (fun b => Or.inl (by cases b <;> rfl)), rfl⟩⟩
    rw [hk]; exact c1
  · have L1 := LB_rd (b := true) hL E1 S1 T1 Q1
    rcases h with ⟨f, f1, f2, f3⟩ | ⟨p, N, g1, g2, g3, g4, g5, g6⟩
    · subst f3
      rw [f1] at S1
      obtain ⟨_, _, s1, s2, _⟩ := S1
      have s1 : (a_I M1 1 13).toInt = (f.1 : Int) := s1
      refine ⟨FrK_s (by decide) (by decide) (FrK_s (by decide) (by decide) (FrK_s (by decide) (by decide) (FrK_s (by decide) (by decide) (FrK_L (b := true) Q1)))), Or.inr ⟨lim, ⟨l1, by rw [hk]; omega⟩, rfl, Or.inl ⟨f, f1, f2, LB_bad L1, rfl, ?_, s2, ?_, fun k => ?_, fun k => ?_⟩⟩⟩
      · show v.toInt = _; rw [l3]; exact s1
      · exact Q1.2.2 0 8 rfl
      · exact Q1.2.2 4 k (fL_o (b := true) rfl)
      · exact Q1.2.2 96 k (fL_o (b := true) rfl)
    · subst g6
      have hlk := endM_l (show endM (clB M) lim (lnsF (clB M) lim 701 L0 0).1 (lnsF (clB M) lim 701 L0 0).2 = .inl p from g1)
      rw [g1] at S1
      have h13 := (Sc_p S1).2
      have hn : ∀ a j, a ≠ 96 → a_I N a j = _ := fun a j e => g3.2.2 a j (nbF e)
      rcases g2.1 with ⟨_, z2⟩ | ⟨_, ⟨z2, z3, z4⟩, z5, z6⟩
      · exfalso
        have : lacks (shL (clB M) lim) = true := by unfold lacks; rw [decide_eq_true z2]; rfl
        rw [show lacks (shL (clB M) lim) = false from hlk] at this
        cases this
      · have hw := g2.2.2.1.1.1
        refine ⟨FrK_s (by decide) (by decide) (FrK_s (by decide) (by decide) (FrK_I (FrK_s (by decide) (by decide) (FrK_s (by decide) (by decide) (FrK_s (by decide) (by decide) (FrK_s (by decide) (by decide) (FrK_s (by decide) (by decide) (FrK_s (by decide) (by decide) (FrK_s (by decide) (by decide) (FrK_s (by decide) (by decide) (FrK_s (by decide) (by decide) (FrK_s (by decide) (by decide) (FrK_s (by decide) (by decide) (FrK_s (by decide) (by decide) (FrK_s (by decide) (by decide) (FrK_s (by decide) (by decide) (FrK_s (by decide) (by decide) (FrK_s (by decide) (by decide) (FrK_s (by decide) (by decide) (FrK_s (by decide) (by decide) (FrK_p (by decide) (FrK_p (by decide) (FrK_s (by decide) (by decide) (FrK_s (by decide) (by decide) (FrK_s (by decide) (by decide) (FrK_L (b := true) Q1)))))))))))))))))))))))) g3)), Or.inr ⟨lim, ⟨l1, by rw [hk]; omega⟩, ?_, Or.inr ⟨p, g1, ?_, LB_good (b := true) L1 ⟨?_, ?_⟩ g3, rfl, ?_, ?_, ⟨?_, ?_, ?_, ?_⟩, fun k hk => g4 k hk, ?_⟩⟩⟩
        · rw [aI_nk (fun q => by omega), aI_nk (fun q => by omega), hn 2 1 (by decide)]
          repeat (first | rw [aI_nk (fun q => by omega)] | rw [aI_sP9])
          exact aI_at
        · rw [g5, hn 101 10 (by decide)]
          repeat (first | rw [aI_nk (fun q => by omega)] | rw [aI_sP9])
          exact hw
        · show 0 ≤ (a_I M1 101 0).toInt; omega
        · show (a_I M1 101 0).toInt ≤ 30; omega
        · rw [aI_nk (fun q => by omega), aI_nk (fun q => by omega), hn 0 10 (by decide)]
          repeat (first | rw [aI_nk (fun q => by omega)] | rw [aI_sP9])
          rw [aI_at]; exact l3.trans h13
        · rw [aI_nk (fun q => by omega), aI_nk (fun q => by omega), hn 0 8 (by decide)]
          repeat (first | rw [aI_nk (fun q => by omega)] | rw [aI_sP9])
          exact aI_at
        · show (a_I _ 101 0).toInt = _
          rw [aI_nk (fun q => by omega), aI_nk (fun q => by omega), hn 101 0 (by decide)]
          repeat (first | rw [aI_nk (fun q => by omega)] | rw [aI_sP9])
          exact z2
        · show (a_I _ 101 1).toInt = _
          rw [aI_nk (fun q => by omega), aI_nk (fun q => by omega), hn 101 1 (by decide)]
          repeat (first | rw [aI_nk (fun q => by omega)] | rw [aI_sP9])
          exact z3
        · show (a_I _ 101 2).toInt = _
          rw [aI_nk (fun q => by omega), aI_nk (fun q => by omega), hn 101 2 (by decide)]
          repeat (first | rw [aI_nk (fun q => by omega)] | rw [aI_sP9])
          exact z4
        · show (a_I _ 101 10).toInt = _
          rw [aI_nk (fun q => by omega), aI_nk (fun q => by omega), hn 101 10 (by decide)]
          repeat (first | rw [aI_nk (fun q => by omega)] | rw [aI_sP9])
          exact hw
        · rw [aI_nk (fun q => by omega), aI_nk (fun q => by omega), hn 52 4 (by decide)]
          repeat (first | rw [aI_nk (fun q => by omega)] | rw [aI_sP9])
          exact aI_at
theorem oX_shop {cd : Nat → Nat → Option aI} {z : Bool} (hz : ∀ m p i, cd0 z m p = some i → cd m p = some i) {b : Bool} {rg : Nat → Nat} {M : aM} (hL : LB b rg M) {n : Int32} {d : Nat} : wpS cd (d + 10, [], 105, 0, la 0 [.inr (.inr (some 0)), .inl n], [], M) (fun r M' => ∃ y, r = some (.inl y) ∧ ShC b rg n M M' y) := by
  cases b
  · exact oX_shop_false hz hL
  · exact oX_shop_true hz hL

/-! The class's shop over the invariant: printed by wip/gen/clspf.py -/
/-- the class's shop: what it answers and leaves; more of what a fault leaves as it was -/
def ShD (b : Bool) (rg : Nat → Nat) (n : Int32) (M M' : aM) (y : Int32) : Prop := FrK M M' ∧ (((n.toInt < 0 ∨ (a_I M 2 1).toInt < n.toInt) ∧ y = -1 ∧ LB b rg M' ∧ M' = s_I M 0 9 2) ∨ ∃ lim : Nat, (n.toInt = (lim : Int) ∧ (lim : Int) ≤ (a_I M 2 1).toInt) ∧ a_I M' 2 1 = 0 ∧ ((∃ f, shM (clB M) lim = .inr f ∧ y = -1 ∧ LB b rg M' ∧ a_I M' 0 9 = 4 ∧ (a_I M' 0 10).toInt = (f.1 : Int) ∧ (a_I M' 0 11).toInt = (f.2 : Int) ∧ a_I M' 0 8 = a_I M 0 8 ∧ (∀ k, a_I M' (cur b) k = a_I M (cur b) k) ∧ ∀ k, a_I M' 96 k = a_I M 96 k ∧ a_I M' 97 k = a_I M 97 k ∧ a_I M' 98 k = a_I M 98 k ∧ a_I M' 99 k = a_I M 99 k ∧ a_I M' 100 k = a_I M 100 k ∧ a_I M' 95 k = a_I M 95 k ∧ a_I M' 52 k = a_I M 52 k) ∨ ∃ p, shM (clB M) lim = .inl p ∧ y.toInt = (l_wy (shL (clB M) lim) : Int) ∧ LB (!b) (rgX b rg) M' ∧ a_I M' 0 9 = 0 ∧ a_I M' 0 10 = 0 ∧ a_I M' 0 8 = 1 ∧ ((a_I M' (tld b) 0).toInt = l_in (shL (clB M) lim) ∧ (a_I M' (tld b) 1).toInt = (shL (clB M) lim).1.2.1 ∧ (a_I M' (tld b) 2).toInt = (shL (clB M) lim).1.2.2 ∧ (a_I M' (tld b) 10).toInt = (l_wy (shL (clB M) lim) : Int)) ∧ (∀ k, k < 30 → a_I M' 96 k = 0) ∧ a_I M' 52 4 = 0 ∧ a_I M' 95 5 = -1))
set_option maxHeartbeats 4000000 in
theorem oX_shpD_false {cd : Nat → Nat → Option aI} {z : Bool} (hz : ∀ m p i, cd0 z m p = some i → cd m p = some i) {rg : Nat → Nat} {M : aM} (hL : LB false rg M) {n : Int32} {d : Nat} : wpS cd (d + 10, [], 105, 0, la 0 [.inr (.inr (some 0)), .inl n], [], M) (fun r M' => ∃ y, r = some (.inl y) ∧ ShD false rg n M M' y) := by
  have h21 := LB_21 hL
  obtain ⟨k, hk⟩ : ∃ k : Nat, (a_I M 2 1).toInt = (k : Int) := ⟨(a_I M 2 1).toInt.toNat, by omega⟩
  have P9 : PrC 4 (clB M) M M := LB_Pr (b := false) hL
  have D9 : nv_A (nvD 101 4) (tauC 4) M := LB_nvD (b := false) hL
  have h9 := c_shop4 (n := n) (d := d) hz P9 D9 hk (by omega)
  refine wpS_mono h9 (fun r M' h => ?_)
  obtain ⟨y, hr, h⟩ := h
  refine ⟨y, hr, ?_⟩
  rcases h with ⟨c1, c2, c3⟩ | ⟨lim, M1, v, ⟨l1, l2, l3⟩, ⟨E1, S1, T1, Q1⟩, h⟩
  · subst c3
    refine ⟨FrK_s (by decide) (by decide) FrK_rf, Or.inl ⟨?_, c2, LB_s hL (by decide) (fun b => Or.inl (by cases b <;> rfl)), rfl⟩⟩
    rw [hk]; exact c1
  · have L1 := LB_rd (b := false) hL E1 S1 T1 Q1
    rcases h with ⟨f, f1, f2, f3⟩ | ⟨p, N, g1, g2, g3, g4, g5, g6⟩
    · subst f3
      rw [f1] at S1
      obtain ⟨_, _, s1, s2, _⟩ := S1
      have s1 : (a_I M1 1 13).toInt = (f.1 : Int) := s1
      refine ⟨FrK_s (by decide) (by decide) (FrK_s (by decide) (by decide) (FrK_s (by decide) (by decide) (FrK_s (by decide) (by decide) (FrK_L (b := false) Q1)))), Or.inr ⟨lim, ⟨l1, by rw [hk]; omega⟩, rfl, Or.inl ⟨f, f1, f2, LB_bad L1, rfl, ?_, s2, ?_, fun k => ?_, fun k => ?_⟩⟩⟩
      · show v.toInt = _; rw [l3]; exact s1
      · exact Q1.2.2 0 8 rfl
      · exact Q1.2.2 101 k (fL_o (b := false) rfl)
      · exact ⟨Q1.2.2 96 k (fL_o (b := false) rfl), Q1.2.2 97 k (fL_o (b := false) rfl), Q1.2.2 98 k (fL_o (b := false) rfl), Q1.2.2 99 k (fL_o (b := false) rfl), Q1.2.2 100 k (fL_o (b := false) rfl), Q1.2.2 95 k (fL_o (b := false) rfl), Q1.2.2 52 k (fL_o (b := false) rfl)⟩
    · subst g6
      have hlk := endM_l (show endM (clB M) lim (lnsF (clB M) lim 701 L0 0).1 (lnsF (clB M) lim 701 L0 0).2 = .inl p from g1)
      rw [g1] at S1
      have h13 := (Sc_p S1).2
      have hn : ∀ a j, a ≠ 96 → a_I N a j = _ := fun a j e => g3.2.2 a j (nbF e)
      rcases g2.1 with ⟨_, z2⟩ | ⟨_, ⟨z2, z3, z4⟩, z5, z6⟩
      · exfalso
        have : lacks (shL (clB M) lim) = true := by unfold lacks; rw [decide_eq_true z2]; rfl
        rw [show lacks (shL (clB M) lim) = false from hlk] at this
        cases this
      · have hw := g2.2.2.1.1.1
        refine ⟨FrK_s (by decide) (by decide) (FrK_s (by decide) (by decide) (FrK_I (FrK_s (by decide) (by decide) (FrK_s (by decide) (by decide) (FrK_s (by decide) (by decide) (FrK_s (by decide) (by decide) (FrK_s (by decide) (by decide) (FrK_s (by decide) (by decide) (FrK_s (by decide) (by decide) (FrK_s (by decide) (by decide) (FrK_s (by decide) (by decide) (FrK_s (by decide) (by decide) (FrK_s (by decide) (by decide) (FrK_s (by decide) (by decide) (FrK_s (by decide) (by decide) (FrK_s (by decide) (by decide) (FrK_s (by decide) (by decide) (FrK_s (by decide) (by decide) (FrK_s (by decide) (by decide) (FrK_s (by decide) (by decide) (FrK_p (by decide) (FrK_p (by decide) (FrK_s (by decide) (by decide) (FrK_s (by decide) (by decide) (FrK_s (by decide) (by decide) (FrK_L (b := false) Q1)))))))))))))))))))))))) g3)), Or.inr ⟨lim, ⟨l1, by rw [hk]; omega⟩, ?_, Or.inr ⟨p, g1, ?_, LB_good (b := false) L1 ⟨?_, ?_⟩ g3, rfl, ?_, ?_, ⟨?_, ?_, ?_, ?_⟩, fun k hk => g4 k hk, ?_, rfl⟩⟩⟩
        · rw [aI_nk (fun q => by omega), aI_nk (fun q => by omega), hn 2 1 (by decide)]
          repeat (first | rw [aI_nk (fun q => by omega)] | rw [aI_sP9])
          exact aI_at
        · rw [g5, hn 4 10 (by decide)]
          repeat (first | rw [aI_nk (fun q => by omega)] | rw [aI_sP9])
          exact hw
        · show 0 ≤ (a_I M1 4 0).toInt; omega
        · show (a_I M1 4 0).toInt ≤ 30; omega
        · rw [aI_nk (fun q => by omega), aI_nk (fun q => by omega), hn 0 10 (by decide)]
          repeat (first | rw [aI_nk (fun q => by omega)] | rw [aI_sP9])
          rw [aI_at]; exact l3.trans h13
        · rw [aI_nk (fun q => by omega), aI_nk (fun q => by omega), hn 0 8 (by decide)]
          repeat (first | rw [aI_nk (fun q => by omega)] | rw [aI_sP9])
          exact aI_at
        · show (a_I _ 4 0).toInt = _
          rw [aI_nk (fun q => by omega), aI_nk (fun q => by omega), hn 4 0 (by decide)]
          repeat (first | rw [aI_nk (fun q => by omega)] | rw [aI_sP9])
          exact z2
        · show (a_I _ 4 1).toInt = _
          rw [aI_nk (fun q => by omega), aI_nk (fun q => by omega), hn 4 1 (by decide)]
          repeat (first | rw [aI_nk (fun q => by omega)] | rw [aI_sP9])
          exact z3
        · show (a_I _ 4 2).toInt = _
          rw [aI_nk (fun q => by omega), aI_nk (fun q => by omega), hn 4 2 (by decide)]
          repeat (first | rw [aI_nk (fun q => by omega)] | rw [aI_sP9])
          exact z4
        · show (a_I _ 4 10).toInt = _
          rw [aI_nk (fun q => by omega), aI_nk (fun q => by omega), hn 4 10 (by decide)]
          repeat (first | rw [aI_nk (fun q => by omega)] | rw [aI_sP9])
          exact hw
        · rw [aI_nk (fun q => by omega), aI_nk (fun q => by omega), hn 52 4 (by decide)]
          repeat (first | rw [aI_nk (fun q => by omega)] | rw [aI_sP9])
          exact aI_at
set_option maxHeartbeats 4000000 in
theorem oX_shpD_true {cd : Nat → Nat → Option aI} {z : Bool} (hz : ∀ m p i, cd0 z m p = some i → cd m p = some i) {rg : Nat → Nat} {M : aM} (hL : LB true rg M) {n : Int32} {d : Nat} : wpS cd (d + 10, [], 105, 0, la 0 [.inr (.inr (some 0)), .inl n], [], M) (fun r M' => ∃ y, r = some (.inl y) ∧ ShD true rg n M M' y) := by
  have h21 := LB_21 hL
  obtain ⟨k, hk⟩ : ∃ k : Nat, (a_I M 2 1).toInt = (k : Int) := ⟨(a_I M 2 1).toInt.toNat, by omega⟩
  have P9 : PrC 101 (clB M) M M := LB_Pr (b := true) hL
  have D9 : nv_A (nvD 4 101) (tauC 101) M := LB_nvD (b := true) hL
  have h9 := c_shop101 (n := n) (d := d) hz P9 D9 hk (by omega)
  refine wpS_mono h9 (fun r M' h => ?_)
  obtain ⟨y, hr, h⟩ := h
  refine ⟨y, hr, ?_⟩
  rcases h with ⟨c1, c2, c3⟩ | ⟨lim, M1, v, ⟨l1, l2, l3⟩, ⟨E1, S1, T1, Q1⟩, h⟩
  · subst c3
    refine ⟨FrK_s (by decide) (by decide) FrK_rf, Or.inl ⟨?_, c2, LB_s hL (by decide) (fun b => Or.inl (by cases b <;> rfl)), rfl⟩⟩
    rw [hk]; exact c1
  · have L1 := LB_rd (b := true) hL E1 S1 T1 Q1
    rcases h with ⟨f, f1, f2, f3⟩ | ⟨p, N, g1, g2, g3, g4, g5, g6⟩
    · subst f3
      rw [f1] at S1
      obtain ⟨_, _, s1, s2, _⟩ := S1
      have s1 : (a_I M1 1 13).toInt = (f.1 : Int) := s1
      refine ⟨FrK_s (by decide) (by decide) (FrK_s (by decide) (by decide) (FrK_s (by decide) (by decide) (FrK_s (by decide) (by decide) (FrK_L (b := true) Q1)))), Or.inr ⟨lim, ⟨l1, by rw [hk]; omega⟩, rfl, Or.inl ⟨f, f1, f2, LB_bad L1, rfl, ?_, s2, ?_, fun k => ?_, fun k => ?_⟩⟩⟩
      · show v.toInt = _; rw [l3]; exact s1
      · exact Q1.2.2 0 8 rfl
      · exact Q1.2.2 4 k (fL_o (b := true) rfl)
      · exact ⟨Q1.2.2 96 k (fL_o (b := true) rfl), Q1.2.2 97 k (fL_o (b := true) rfl), Q1.2.2 98 k (fL_o (b := true) rfl), Q1.2.2 99 k (fL_o (b := true) rfl), Q1.2.2 100 k (fL_o (b := true) rfl), Q1.2.2 95 k (fL_o (b := true) rfl), Q1.2.2 52 k (fL_o (b := true) rfl)⟩
    · subst g6
      have hlk := endM_l (show endM (clB M) lim (lnsF (clB M) lim 701 L0 0).1 (lnsF (clB M) lim 701 L0 0).2 = .inl p from g1)
      rw [g1] at S1
      have h13 := (Sc_p S1).2
      have hn : ∀ a j, a ≠ 96 → a_I N a j = _ := fun a j e => g3.2.2 a j (nbF e)
      rcases g2.1 with ⟨_, z2⟩ | ⟨_, ⟨z2, z3, z4⟩, z5, z6⟩
      · exfalso
        have : lacks (shL (clB M) lim) = true := by unfold lacks; rw [decide_eq_true z2]; rfl
        rw [show lacks (shL (clB M) lim) = false from hlk] at this
        cases this
      · have hw := g2.2.2.1.1.1
        refine ⟨FrK_s (by decide) (by decide) (FrK_s (by decide) (by decide) (FrK_I (FrK_s (by decide) (by decide) (FrK_s (by decide) (by decide) (FrK_s (by decide) (by decide) (FrK_s (by decide) (by decide) (FrK_s (by decide) (by decide) (FrK_s (by decide) (by decide) (FrK_s (by decide) (by decide) (FrK_s (by decide) (by decide) (FrK_s (by decide) (by decide) (FrK_s (by decide) (by decide) (FrK_s (by decide) (by decide) (FrK_s (by decide) (by decide) (FrK_s (by decide) (by decide) (FrK_s (by decide) (by decide) (FrK_s (by decide) (by decide) (FrK_s (by decide) (by decide) (FrK_s (by decide) (by decide) (FrK_s (by decide) (by decide) (FrK_p (by decide) (FrK_p (by decide) (FrK_s (by decide) (by decide) (FrK_s (by decide) (by decide) (FrK_s (by decide) (by decide) (FrK_L (b := true) Q1)))))))))))))))))))))))) g3)), Or.inr ⟨lim, ⟨l1, by rw [hk]; omega⟩, ?_, Or.inr ⟨p, g1, ?_, LB_good (b := true) L1 ⟨?_, ?_⟩ g3, rfl, ?_, ?_, ⟨?_, ?_, ?_, ?_⟩, fun k hk => g4 k hk, ?_, rfl⟩⟩⟩
        · rw [aI_nk (fun q => by omega), aI_nk (fun q => by omega), hn 2 1 (by decide)]
          repeat (first | rw [aI_nk (fun q => by omega)] | rw [aI_sP9])
          exact aI_at
        · rw [g5, hn 101 10 (by decide)]
          repeat (first | rw [aI_nk (fun q => by omega)] | rw [aI_sP9])
          exact hw
        · show 0 ≤ (a_I M1 101 0).toInt; omega
        · show (a_I M1 101 0).toInt ≤ 30; omega
        · rw [aI_nk (fun q => by omega), aI_nk (fun q => by omega), hn 0 10 (by decide)]
          repeat (first | rw [aI_nk (fun q => by omega)] | rw [aI_sP9])
          rw [aI_at]; exact l3.trans h13
        · rw [aI_nk (fun q => by omega), aI_nk (fun q => by omega), hn 0 8 (by decide)]
          repeat (first | rw [aI_nk (fun q => by omega)] | rw [aI_sP9])
          exact aI_at
        · show (a_I _ 101 0).toInt = _
          rw [aI_nk (fun q => by omega), aI_nk (fun q => by omega), hn 101 0 (by decide)]
          repeat (first | rw [aI_nk (fun q => by omega)] | rw [aI_sP9])
          exact z2
        · show (a_I _ 101 1).toInt = _
          rw [aI_nk (fun q => by omega), aI_nk (fun q => by omega), hn 101 1 (by decide)]
          repeat (first | rw [aI_nk (fun q => by omega)] | rw [aI_sP9])
          exact z3
        · show (a_I _ 101 2).toInt = _
          rw [aI_nk (fun q => by omega), aI_nk (fun q => by omega), hn 101 2 (by decide)]
          repeat (first | rw [aI_nk (fun q => by omega)] | rw [aI_sP9])
          exact z4
        · show (a_I _ 101 10).toInt = _
          rw [aI_nk (fun q => by omega), aI_nk (fun q => by omega), hn 101 10 (by decide)]
          repeat (first | rw [aI_nk (fun q => by omega)] | rw [aI_sP9])
          exact hw
        · rw [aI_nk (fun q => by omega), aI_nk (fun q => by omega), hn 52 4 (by decide)]
          repeat (first | rw [aI_nk (fun q => by omega)] | rw [aI_sP9])
          exact aI_at
theorem oX_shpD {cd : Nat → Nat → Option aI} {z : Bool} (hz : ∀ m p i, cd0 z m p = some i → cd m p = some i) {b : Bool} {rg : Nat → Nat} {M : aM} (hL : LB b rg M) {n : Int32} {d : Nat} : wpS cd (d + 10, [], 105, 0, la 0 [.inr (.inr (some 0)), .inl n], [], M) (fun r M' => ∃ y, r = some (.inl y) ∧ ShD b rg n M M' y) := by
  cases b
  · exact oX_shpD_false hz hL
  · exact oX_shpD_true hz hL

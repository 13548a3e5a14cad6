/-! gets, whatever its numbers are -/
def ct_getsG : yC := (([(0, 0), (1, 9), ((-2147483648), 2147483647)], [13, 12], [((0, 3), .inr (.inr (some 1)))], [(195, 0, [(0, .inr (.inr (some 0))), (1, .inl (1, 0)), (2, .inl (2, 0))], [])]), [(some (.inl (0, 1)), [])], [(688, 0)], 2)
/-- the entry of gets for n inches and a bush of b (as large as n, or larger) -/
def entG (n b : Nat) : yS := bif Nat.blt b n || Nat.beq n 9 then ([(0, 0), ((-2147483648), 2147483647)], [13, 12], [((0, 3), .inr (.inr (some 1))), ((1, 2), .inl (0, (b : Int)))], [(195, 0, [(0, .inr (.inr (some 0))), (1, .inl (0, (n : Int))), (2, .inl (1, 0))], [])]) else ([(0, 0), ((-2147483648), 2147483647), ((n : Int), 9)], [13, 12], [((0, 3), .inr (.inr (some 1))), ((1, 2), .inl (2, 0))], [(195, 0, [(0, .inr (.inr (some 0))), (1, .inl (0, (n : Int))), (2, .inl (1, 0))], [])])
def getC (n b : Nat) : yC := (entG n b, [(some (.inl (0, 1)), [])], [(688, 0)], 2)
theorem gK3 {ρ ρ' : List Int} {τ : List Nat} {n : Int} {st : aL} (h : gL [(0, .inr (.inr (some 0))), (1, .inl (1, 0)), (2, .inl (2, 0))] ρ τ st) (h1 : ρ[1]? = some n) (h2 : ∀ w, ρ[2]? = some w → ρ'[1]? = some w) (h0 : ρ'[0]? = some 0) : gL [(0, .inr (.inr (some 0))), (1, .inl (0, n)), (2, .inl (1, 0))] ρ' τ st := fun i s hs => by
  unfold ylk at hs
  cases hb : Nat.beq 0 i with
  | true =>
    rw [hb] at hs
    obtain ⟨v, v1, v2⟩ := h i (.inr (.inr (some 0))) (by unfold ylk; rw [hb]; rfl)
    cases hs
    obtain ⟨a, rfl, ha⟩ := inv_ref v2
    exact ⟨_, v1, ha⟩
  | false =>
    rw [hb] at hs
    simp only [cond_false] at hs
    unfold ylk at hs
    cases hb1 : Nat.beq 1 i with
    | true =>
      rw [hb1] at hs
      obtain ⟨v, v1, v2⟩ := h i (.inl (1, 0)) (by unfold ylk; rw [hb]; simp only [cond_false]; unfold ylk; rw [hb1]; rfl)
      cases hs
      obtain ⟨x, rfl⟩ := inv_int v2
      obtain ⟨z, z1, z2⟩ := v2
      rw [h1] at z1
      cases z1
      exact ⟨_, v1, 0, h0, by omega⟩
    | false =>
      rw [hb1] at hs
      simp only [cond_false] at hs
      unfold ylk at hs
      cases hb2 : Nat.beq 2 i with
      | true =>
        rw [hb2] at hs
        obtain ⟨v, v1, v2⟩ := h i (.inl (2, 0)) (by unfold ylk; rw [hb]; simp only [cond_false]; unfold ylk; rw [hb1]; simp only [cond_false]; unfold ylk; rw [hb2]; rfl)
        cases hs
        obtain ⟨x, rfl⟩ := inv_int v2
        obtain ⟨z, z1, z2⟩ := v2
        exact ⟨_, v1, z, h2 z z1, z2⟩
      | false =>
        rw [hb2] at hs
        cases hs
theorem gE_len3 {b1 b2 b3 : Int × Int} {ρ : List Int} (h : gE [b1, b2, b3] ρ) : ∃ x y, ∃ n w, ρ = [x, n, w] ∧ y = x := by
  match ρ, h.1 with
  | [x, n, w], _ => exact ⟨x, x, n, w, rfl, rfl⟩
set_option maxHeartbeats 1000000 in
theorem cc_getsG {cd : Nat → Nat → Option aI} {rg : Nat → Nat} {M0 : aM} {ms : Nat → Nat → Bool} (hC : ∀ n b : Nat, 1 ≤ n → n ≤ 9 → b ≤ n → yCtr cd RR rg M0 ms (getC n b)) : yCtr cd RR rg M0 ms ct_getsG := fun ρ τ X hF hg => by
  obtain ⟨d, fs, mid, pc, lo, st, M⟩ := X
  obtain ⟨⟨g1, g2, g3⟩, g4, g5, g6, ⟨q1, q2, q3, q4⟩, q5⟩ := hg
  simp only at g1 g2 g3 g4 g5 g6 q1 q2 q3 q4 q5
  obtain ⟨b1, _, n, w, hρ, _⟩ := gE_len3 g1
  subst hρ
  have hn : 1 ≤ n ∧ n ≤ 9 := g1.2 1 (1, 9) n rfl rfl
  obtain ⟨o9, o1, o2⟩ := g4 ((0, 3), .inr (.inr (some 1))) List.mem_cons_self
  obtain ⟨u, u1, u2⟩ := o2
  have hu : u < a_n M ∧ rg u = 12 := by
    rcases g2.2 1 12 u rfl u1 with ⟨_, e1, e2⟩ | ⟨e, _⟩
    · exact ⟨e1, e2⟩
    · exact absurd e (by decide)
  have hty := (g5.1.2 u hu.1).2.2 2 (by rw [hu.2]; decide)
  rw [hu.2] at hty
  have hb : 0 ≤ (a_I M u 2).toInt ∧ (a_I M u 2).toInt ≤ 9 := hty
  generalize hbb : (a_I M u 2).toInt = bb at hb
  have hl1 : gL [(0, .inr (.inr (some 0))), (1, .inl (0, ((n.toNat : Nat) : Int))), (2, .inl (1, 0))] [0, w] τ lo := gK3 q3 (show some n = some _ by rw [Int.toNat_of_nonneg (by omega)]) (fun v h => h) rfl
  have h0 : b1 = 0 := Option.some.inj g3
  have hst := gK_nil q4
  subst hst
  have hfs : fs = [] := List.eq_nil_of_length_eq_zero (gF_len q5).symm
  subst hfs
  have key : ∀ (ρ9 : List Int) (k1 k2 : Nat) (r : Option aV) (M' : aM), cQ RR rg M ρ9 (getC k1 k2) r M' → cQ RR rg M [b1, n, w] ct_getsG r M' := fun ρ9 k1 k2 r M' h => by
    obtain ⟨c1, c2, a, c3, c4, c5⟩ := h
    refine ⟨c1, c2, a, c3, ?_, ?_⟩
    · rcases List.mem_cons.mp c3 with e | c3
      · subst e
        rcases r with _ | x | x | x <;> exact c4
      · cases c3
    · rcases List.mem_cons.mp c3 with e | c3
      · subst e
        exact fun q hq => by cases hq
      · cases c3
  by_cases hlt : bb < n ∨ n = 9
  · have hc := hC n.toNat bb.toNat (by omega) (by omega) (by omega)
    have he : entG n.toNat bb.toNat = ([(0, 0), ((-2147483648), 2147483647)], [13, 12], [((0, 3), .inr (.inr (some 1))), ((1, 2), .inl (0, ((bb.toNat : Nat) : Int)))], [(195, 0, [(0, .inr (.inr (some 0))), (1, .inl (0, ((n.toNat : Nat) : Int))), (2, .inl (1, 0))], [])]) := by
      unfold entG
      rcases hlt with hlt | hlt
      · rw [show Nat.blt bb.toNat n.toNat = true from Nat.ble_eq.mpr (by omega)]
        rfl
      · rw [show Nat.beq n.toNat 9 = true by rw [hlt]; rfl, Bool.or_true]
        rfl
    have hw := hc [0, w] τ (d, [], mid, pc, lo, [], M) hF (by
      unfold getC
      rw [he]
      refine ⟨⟨⟨rfl, ?_⟩, g2, rfl⟩, ?_, g5, g6, ⟨q1, q2, hl1, trivial⟩, trivial⟩
      · intro j p z e1 e2
        match j, e1, e2 with
        | 0, e1, e2 => cases e1; cases e2; exact ⟨by decide, by decide⟩
        | 1, e1, e2 => cases e1; cases e2; exact g1.2 2 _ w rfl rfl
        | j + 2, e1, e2 => simp at e1
      · intro q hq
        rcases List.mem_cons.mp hq with e | hq
        · rw [e]; exact ⟨o9, o1, u, u1, u2⟩
        · rcases List.mem_cons.mp hq with e | hq
          · rw [e]
            refine ⟨u, u1, 0, rfl, ?_⟩
            show (a_I M u 2).toInt = 0 + ((bb.toNat : Nat) : Int)
            rw [hbb]
            omega
          · cases hq)
    exact wp_mono hw (fun r M' h => key _ _ _ r M' h)
  · have hc := hC n.toNat n.toNat (by omega) (by omega) (by omega)
    have he : entG n.toNat n.toNat = ([(0, 0), ((-2147483648), 2147483647), (((n.toNat : Nat) : Int), 9)], [13, 12], [((0, 3), .inr (.inr (some 1))), ((1, 2), .inl (2, 0))], [(195, 0, [(0, .inr (.inr (some 0))), (1, .inl (0, ((n.toNat : Nat) : Int))), (2, .inl (1, 0))], [])]) := by
      unfold entG
      rw [show Nat.blt n.toNat n.toNat = false from Bool.eq_false_iff.mpr (fun h => absurd (blt_lt h) (Nat.lt_irrefl _)), nbF (show ¬ n.toNat = 9 by omega)]
      rfl
    have hw := hc [0, w, bb] τ (d, [], mid, pc, lo, [], M) hF (by
      unfold getC
      rw [he]
      refine ⟨⟨⟨rfl, ?_⟩, g2, rfl⟩, ?_, g5, g6, ⟨q1, q2, ?_, trivial⟩, trivial⟩
      · intro j p z e1 e2
        match j, e1, e2 with
        | 0, e1, e2 => cases e1; cases e2; exact ⟨by decide, by decide⟩
        | 1, e1, e2 => cases e1; cases e2; exact g1.2 2 _ w rfl rfl
        | 2, e1, e2 => cases e1; cases e2; exact ⟨by omega, hb.2⟩
        | j + 3, e1, e2 => simp at e1
      · intro q hq
        rcases List.mem_cons.mp hq with e | hq
        · rw [e]; exact ⟨o9, o1, u, u1, u2⟩
        · rcases List.mem_cons.mp hq with e | hq
          · rw [e]
            refine ⟨u, u1, bb, rfl, ?_⟩
            show (a_I M u 2).toInt = bb + 0
            rw [hbb]
            omega
          · cases hq
      · have := gL_mono [bb] [] hl1
        simpa using this)
    exact wp_mono hw (fun r M' h => key _ _ _ r M' h)
theorem ge_1_0 : ct_gets_1_0 = getC 1 0 := rfl
theorem ge_1_1 : ct_gets_1_1 = getC 1 1 := rfl
theorem ge_2_0 : ct_gets_2_0 = getC 2 0 := rfl
theorem ge_2_1 : ct_gets_2_1 = getC 2 1 := rfl
theorem ge_2_2 : ct_gets_2_2 = getC 2 2 := rfl
theorem ge_3_0 : ct_gets_3_0 = getC 3 0 := rfl
theorem ge_3_1 : ct_gets_3_1 = getC 3 1 := rfl
theorem ge_3_2 : ct_gets_3_2 = getC 3 2 := rfl
theorem ge_3_3 : ct_gets_3_3 = getC 3 3 := rfl
theorem ge_4_0 : ct_gets_4_0 = getC 4 0 := rfl
theorem ge_4_1 : ct_gets_4_1 = getC 4 1 := rfl
theorem ge_4_2 : ct_gets_4_2 = getC 4 2 := rfl
theorem ge_4_3 : ct_gets_4_3 = getC 4 3 := rfl
theorem ge_4_4 : ct_gets_4_4 = getC 4 4 := rfl
theorem ge_5_0 : ct_gets_5_0 = getC 5 0 := rfl
theorem ge_5_1 : ct_gets_5_1 = getC 5 1 := rfl
theorem ge_5_2 : ct_gets_5_2 = getC 5 2 := rfl
theorem ge_5_3 : ct_gets_5_3 = getC 5 3 := rfl
theorem ge_5_4 : ct_gets_5_4 = getC 5 4 := rfl
theorem ge_5_5 : ct_gets_5_5 = getC 5 5 := rfl
theorem ge_6_0 : ct_gets_6_0 = getC 6 0 := rfl
theorem ge_6_1 : ct_gets_6_1 = getC 6 1 := rfl
theorem ge_6_2 : ct_gets_6_2 = getC 6 2 := rfl
theorem ge_6_3 : ct_gets_6_3 = getC 6 3 := rfl
theorem ge_6_4 : ct_gets_6_4 = getC 6 4 := rfl
theorem ge_6_5 : ct_gets_6_5 = getC 6 5 := rfl
theorem ge_6_6 : ct_gets_6_6 = getC 6 6 := rfl
theorem ge_7_0 : ct_gets_7_0 = getC 7 0 := rfl
theorem ge_7_1 : ct_gets_7_1 = getC 7 1 := rfl
theorem ge_7_2 : ct_gets_7_2 = getC 7 2 := rfl
theorem ge_7_3 : ct_gets_7_3 = getC 7 3 := rfl
theorem ge_7_4 : ct_gets_7_4 = getC 7 4 := rfl
theorem ge_7_5 : ct_gets_7_5 = getC 7 5 := rfl
theorem ge_7_6 : ct_gets_7_6 = getC 7 6 := rfl
theorem ge_7_7 : ct_gets_7_7 = getC 7 7 := rfl
theorem ge_8_0 : ct_gets_8_0 = getC 8 0 := rfl
theorem ge_8_1 : ct_gets_8_1 = getC 8 1 := rfl
theorem ge_8_2 : ct_gets_8_2 = getC 8 2 := rfl
theorem ge_8_3 : ct_gets_8_3 = getC 8 3 := rfl
theorem ge_8_4 : ct_gets_8_4 = getC 8 4 := rfl
theorem ge_8_5 : ct_gets_8_5 = getC 8 5 := rfl
theorem ge_8_6 : ct_gets_8_6 = getC 8 6 := rfl
theorem ge_8_7 : ct_gets_8_7 = getC 8 7 := rfl
theorem ge_8_8 : ct_gets_8_8 = getC 8 8 := rfl
theorem ge_9_0 : ct_gets_9_0 = getC 9 0 := rfl
theorem ge_9_1 : ct_gets_9_1 = getC 9 1 := rfl
theorem ge_9_2 : ct_gets_9_2 = getC 9 2 := rfl
theorem ge_9_3 : ct_gets_9_3 = getC 9 3 := rfl
theorem ge_9_4 : ct_gets_9_4 = getC 9 4 := rfl
theorem ge_9_5 : ct_gets_9_5 = getC 9 5 := rfl
theorem ge_9_6 : ct_gets_9_6 = getC 9 6 := rfl
theorem ge_9_7 : ct_gets_9_7 = getC 9 7 := rfl
theorem ge_9_8 : ct_gets_9_8 = getC 9 8 := rfl
theorem ge_9_9 : ct_gets_9_9 = getC 9 9 := rfl

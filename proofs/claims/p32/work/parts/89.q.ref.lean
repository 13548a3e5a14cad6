/-! shop of the reference, whole: printed by wip/gen/refp10.py -/
def gSf (a k : Nat) : Bool := Nat.beq a 113 && (Nat.ble k 2 || (Nat.ble 6 k && Nat.ble k 14))
def gSt (a k : Nat) : Bool := gSf a k || ((Nat.beq a 113 && [16, 26, 28, 31, 35, 37].any (Nat.beq k)) || [115, 131, 132, 135].any (Nat.beq a))
/-- what shop leaves as it was -/
def FrG (g : Nat → Nat → Bool) (n0 : Nat) (M M' : aM) : Prop := (∀ a, a < n0 → a_K M' a = a_K M a ∧ a_N M' a = a_N M a) ∧ (∀ a k, a < n0 → g a k = false → a_I M' a k = a_I M a k) ∧ (∀ a k, a < n0 → ¬ (a = 113 ∧ k = 15) → a_J M' a k = a_J M a k) ∧ ∀ a k, a < n0 → ¬ (a = 113 ∧ (k = 3 ∨ k = 4)) → a_P M' a k = a_P M a k
/-- the new shop's objects -/
def NwF (n0 : Nat) (M M' : aM) : Prop := (a_n M' = n0 + 15 ∧ a_c M' = a_c M + 15 ∧ a_z M' ≤ a_z M + 169) ∧ (a_K M' n0 = 12 ∧ a_N M' n0 = 0) ∧ ∀ i, i < 14 → a_K M' (n0 + 1 + i) = kdL i ∧ a_N M' (n0 + 1 + i) = lnL i ∧ a_P M' n0 (15 + i) = some (n0 + 1 + i)
def L0 : lsT := ((0, 0, 0), (false, false), (0, 0, 0), (0, 0, -1), [])
def shB (M : aM) (i : Nat) : Int := (a_I M 114 i &&& 255).toInt
def shM (B : Nat → Int) (lim : Nat) : pmd := endM B lim (lnsF B lim 701 L0 0).1 (lnsF B lim 701 L0 0).2
def shL (B : Nat → Int) (lim : Nat) : lsT := (lnsF B lim 701 L0 0).2
/-- shop's end with a fault, and without one -/
def ShF (B : Nat → Int) (lim n0 : Nat) (M M' : aM) (y : Int32) : Prop := ∃ e q, shM B lim = .inr (e, q) ∧ y = -1 ∧ FrG gSf n0 M M' ∧ a_P M' 113 3 = a_P M 113 3 ∧ (a_I M' 113 13).toInt = (e : Int) ∧ 1 ≤ e ∧ a_I M' 113 1 = 4 ∧ (a_I M' 113 2).toInt = (q : Int)
def ShT (B : Nat → Int) (lim n0 : Nat) (M M' : aM) (y : Int32) : Prop := ∃ p, shM B lim = .inl p ∧ FrG gSt n0 M M' ∧ a_P M' 113 3 = some n0 ∧ (a_I M' 113 13 = 0 ∧ a_I M' 113 1 = 0 ∧ a_I M' 113 2 = -1) ∧ y.toInt = (l_wy (shL B lim) : Int) ∧ (LsA n0 M' (shL B lim) ∧ LsF n0 M' (shL B lim) ∧ lacks (shL B lim) = false) ∧ (a_I M' 113 16 = 0 ∧ a_I M' 113 26 = 0 ∧ a_I M' 113 28 = 0 ∧ a_I M' 113 31 = 0 ∧ a_I M' 113 35 = 0 ∧ a_I M' 113 37 = 0) ∧ (∀ k, k < 10 → a_I M' 115 k = 0) ∧ ∀ k, k < 30 → a_I M' 135 k = 0
def ShP (B : Nat → Int) (lim n0 : Nat) (M M' : aM) (y : Int32) : Prop := NwF n0 M M' ∧ a_I M' 113 6 = 0 ∧ a_P M' 113 4 = some n0 ∧ (ShF B lim n0 M M' y ∨ ShT B lim n0 M M' y)
theorem endM_l {B : Nat → Int} {lim : Nat} {m : pmd} {L : lsT} {p : Nat} (h : endM B lim m L = .inl p) : lacks L = false := (if_inl h).2
set_option maxHeartbeats 8000000 in
theorem r_shop {cd : Nat → Nat → Option aI} {z : Bool} (hz : ∀ m p i, cd0 z m p = some i → cd m p = some i) {n0 : Nat} {M : aM} (hA : nv_A nvB (tauN n0) M) (hn0 : a_n M = n0) (hn1 : 137 ≤ n0) (hb : n0 + 60 < aSB) {k : Nat} (hk : (a_I M 113 6).toInt = (k : Int)) (hk7 : k ≤ 700) {n : Int32} {d : Nat} : wpS cd (d + 13, [], 181, 0, nv_l (tauN n0) (la 0 [.inr (.inr (some 113)), .inl n]), [], M) (fun r M' => ∃ y, r = some (.inl y) ∧ (((n.toInt < 0 ∨ (k : Int) < n.toInt) ∧ y = -1 ∧ M' = s_I (s_I (s_I M 113 0 0) 113 1 2) 113 2 (-1)) ∨ ((0 ≤ n.toInt ∧ n.toInt ≤ (k : Int)) ∧ ShP (shB M) n.toInt.toNat n0 M M' y))) := by
  show wpS cd (nv_S (tauN n0) (d + 13, [], 181, 0, la 0 [.inr (.inr (some 113)), .inl n], [], M)) _
  have hct := hc_of hz
  refine nv_cut hct nvB 181 6 7 (S' := (d + 13, [], 181, 6, [(0, .inr (.inr (some 113))), (1, .inl n)], [.inl n], (s_I M 113 0 (0 : Int32)))) hA rfl ?_
  by_cases c1 : n.toInt < 0
  · skip
    refine nv_if hct true rfl (zcT0 rfl c1) ?_
    refine nv_cut hct nvB 181 22 14 (S' := (d + 13, [], 181, 22, [(0, .inr (.inr (some 113))), (1, .inl n)], [.inl (-1 : Int32)], (s_I (s_I (s_I M 113 0 (0 : Int32)) 113 1 (2 : Int32)) 113 2 (-1 : Int32)))) (nv_As hA) rfl ?_
    exact nv_iret hct rfl rfl ⟨_, rfl, Or.inl ⟨Or.inl c1, rfl, rfl⟩⟩
  · skip
    refine nv_if hct false rfl (zcF0 rfl (by omega)) ?_
    refine nv_cut hct nvB 181 14 6 (S' := (d + 13, [], 181, 14, [(0, .inr (.inr (some 113))), (1, .inl n)], [.inl (a_I M 113 6), .inl n], (s_I M 113 0 (0 : Int32)))) (nv_As hA) rfl ?_
    by_cases c2 : (k : Int) < n.toInt
    · skip
      refine nv_ifc hct false rfl (ccF2 rfl hk c2) ?_
      refine nv_cut hct nvB 181 22 14 (S' := (d + 13, [], 181, 22, [(0, .inr (.inr (some 113))), (1, .inl n)], [.inl (-1 : Int32)], (s_I (s_I (s_I M 113 0 (0 : Int32)) 113 1 (2 : Int32)) 113 2 (-1 : Int32)))) (nv_As hA) rfl ?_
      exact nv_iret hct rfl rfl ⟨_, rfl, Or.inl ⟨Or.inr c2, rfl, rfl⟩⟩
    · skip
      refine nv_ifc hct true rfl (ccT2 rfl hk (by omega)) ?_
      refine nv_cut hct nvB 181 44 16 (S' := (d + 13, [], 181, 44, [(0, .inr (.inr (some 113))), (1, .inl n)], [.inr (.inr (some 113))], (s_I (s_I (s_I (s_I (s_I M 113 0 (0 : Int32)) 113 7 n) 113 6 (0 : Int32)) 113 8 (0 : Int32)) 113 13 (0 : Int32)))) (nv_As hA) rfl ?_
      have hlim : n.toInt = ((n.toInt.toNat : Nat) : Int) := (Int.toNat_of_nonneg (by omega)).symm
      generalize hlm : n.toInt.toNat = lim at hlim ⊢
      have hnN : a_n (s_I (s_I (s_I (s_I (s_I M 113 0 (0 : Int32)) 113 7 n) 113 6 (0 : Int32)) 113 8 (0 : Int32)) 113 13 (0 : Int32)) = n0 := hn0
      have hI1 : ∀ a j, (Nat.beq a 113 && [0, 6, 7, 8, 13].any (Nat.beq j)) = false → a_I (s_I (s_I (s_I (s_I (s_I M 113 0 (0 : Int32)) 113 7 n) 113 6 (0 : Int32)) 113 8 (0 : Int32)) 113 13 (0 : Int32)) a j = a_I M a j := fun a j hj => by
        have hne : ∀ x, x ∈ [0, 6, 7, 8, 13] → ¬ (a = 113 ∧ j = x) := fun x hx e => by
          rw [e.1, e.2] at hj
          have : ∀ x ∈ [0, 6, 7, 8, 13], (Nat.beq 113 113 && [0, 6, 7, 8, 13].any (Nat.beq x)) = true := by decide
          rw [this x hx] at hj
          cases hj
        rw [aI_nk (hne 13 (by decide)), aI_nk (hne 8 (by decide)), aI_nk (hne 6 (by decide)), aI_nk (hne 7 (by decide)), aI_nk (hne 0 (by decide))]
      have hB1 : nv_A nvB (tauN n0) (s_I (s_I (s_I (s_I (s_I M 113 0 (0 : Int32)) 113 7 n) 113 6 (0 : Int32)) 113 8 (0 : Int32)) 113 13 (0 : Int32)) := (nv_As (nv_As (nv_As (nv_As (nv_As hA)))))
      have hS1 : (a_n (s_I (s_I (s_I (s_I (s_I M 113 0 (0 : Int32)) 113 7 n) 113 6 (0 : Int32)) 113 8 (0 : Int32)) 113 13 (0 : Int32)) = a_n M ∧ a_z (s_I (s_I (s_I (s_I (s_I M 113 0 (0 : Int32)) 113 7 n) 113 6 (0 : Int32)) 113 8 (0 : Int32)) 113 13 (0 : Int32)) = a_z M ∧ a_c (s_I (s_I (s_I (s_I (s_I M 113 0 (0 : Int32)) 113 7 n) 113 6 (0 : Int32)) 113 8 (0 : Int32)) 113 13 (0 : Int32)) = a_c M) ∧ a_K (s_I (s_I (s_I (s_I (s_I M 113 0 (0 : Int32)) 113 7 n) 113 6 (0 : Int32)) 113 8 (0 : Int32)) 113 13 (0 : Int32)) = a_K M ∧ a_N (s_I (s_I (s_I (s_I (s_I M 113 0 (0 : Int32)) 113 7 n) 113 6 (0 : Int32)) 113 8 (0 : Int32)) 113 13 (0 : Int32)) = a_N M ∧ a_J (s_I (s_I (s_I (s_I (s_I M 113 0 (0 : Int32)) 113 7 n) 113 6 (0 : Int32)) 113 8 (0 : Int32)) 113 13 (0 : Int32)) = a_J M ∧ a_P (s_I (s_I (s_I (s_I (s_I M 113 0 (0 : Int32)) 113 7 n) 113 6 (0 : Int32)) 113 8 (0 : Int32)) 113 13 (0 : Int32)) = a_P M := ⟨⟨rfl, rfl, rfl⟩, rfl, rfl, rfl, rfl⟩
      have hV1 : a_I (s_I (s_I (s_I (s_I (s_I M 113 0 (0 : Int32)) 113 7 n) 113 6 (0 : Int32)) 113 8 (0 : Int32)) 113 13 (0 : Int32)) 113 6 = 0 ∧ a_I (s_I (s_I (s_I (s_I (s_I M 113 0 (0 : Int32)) 113 7 n) 113 6 (0 : Int32)) 113 8 (0 : Int32)) 113 13 (0 : Int32)) 113 7 = n ∧ a_I (s_I (s_I (s_I (s_I (s_I M 113 0 (0 : Int32)) 113 7 n) 113 6 (0 : Int32)) 113 8 (0 : Int32)) 113 13 (0 : Int32)) 113 8 = 0 ∧ a_I (s_I (s_I (s_I (s_I (s_I M 113 0 (0 : Int32)) 113 7 n) 113 6 (0 : Int32)) 113 8 (0 : Int32)) 113 13 (0 : Int32)) 113 13 = 0 := ⟨rfl, rfl, rfl, rfl⟩
      generalize hN1 : (s_I (s_I (s_I (s_I (s_I M 113 0 (0 : Int32)) 113 7 n) 113 6 (0 : Int32)) 113 8 (0 : Int32)) 113 13 (0 : Int32)) = N1 at hnN hI1 hB1 hS1 hV1 ⊢
      refine nv_z hz (pc' := 47) (lo' := [(0, .inr (.inr (some 113))), (1, .inl n)]) (st' := [.inr (.inr (some 137)), .inr (.inr (some 113))]) (M' := a_new N1 12 29 0) rfl (by
        show (bif Nat.blt (a_n N1 + 1) aSB then _ else none) = _
        rw [show Nat.blt (a_n N1 + 1) aSB = true from Nat.ble_eq.mpr (by omega), hnN]
        rfl) ?_
      refine nv_z hz (pc' := 48) (lo' := [(0, .inr (.inr (some 113))), (1, .inl n)]) (st' := [.inr (.inr (some 137)), .inr (.inr (some 137)), .inr (.inr (some 113))]) (M' := a_new N1 12 29 0) rfl rfl ?_
      show wpS cd (d + 13, [], 181, 48, [(0, .inr (.inr (some 113))), (1, .inl n)], [.inr (.inr (some n0)), .inr (.inr (some n0)), .inr (.inr (some 113))], a_new N1 12 29 0) _
      refine wp_call (hz _ _ _ rfl) (y := 146) (As := [.inr (.inr (some n0))]) (rest := [.inr (.inr (some n0)), .inr (.inr (some 113))]) (by
        show (bif (Nat.blt n0 (a_n N1 + 1) && Nat.beq (a_K (a_new N1 12 29 0) n0) 12) && _ then _ else none) = _
        rw [aK_new, if_pos hnN.symm, show Nat.blt n0 (a_n N1 + 1) = true from Nat.ble_eq.mpr (by omega)]
        rfl) ?_
      have hin := n_init hz (M := N1) (d := d + 12) (by omega)
      rw [hnN] at hin
      refine wp_mono hin (fun r M2 h2 => ?_)
      obtain ⟨e2, I⟩ := h2
      subst e2
      refine wp_step (hz _ _ _ rfl) (pc' := 54) (lo' := [(0, .inr (.inr (some 113))), (1, .inl n)]) (st' := []) (M' := s_P M2 113 4 (some n0)) (by
        have hk13 := (hB1.1 113 13 rfl).2
        rw [nv_lo (by omega)] at hk13
        have i1 := I.1.1
        show (bif Nat.blt 113 (a_n M2) && Nat.beq (a_K M2 113) 13 then _ else none) = _
        rw [(I.2.1 113 (by omega)).1, hk13, show Nat.blt 113 (a_n M2) = true from Nat.ble_eq.mpr (by omega)]
        rfl) ?_
      have A3 := nvR_A hn1 hB1 I
      have h3I : ∀ a j, a_I (s_P M2 113 4 (some n0)) a j = a_I M2 a j := fun a j => rfl
      have h3P : ∀ a j, a_P (s_P M2 113 4 (some n0)) a j = if a = 113 ∧ j = 4 then some n0 else a_P M2 a j := fun a j => aP_sP
      have h3S : (a_n (s_P M2 113 4 (some n0)) = a_n M2 ∧ a_z (s_P M2 113 4 (some n0)) = a_z M2 ∧ a_c (s_P M2 113 4 (some n0)) = a_c M2) ∧ a_K (s_P M2 113 4 (some n0)) = a_K M2 ∧ a_N (s_P M2 113 4 (some n0)) = a_N M2 ∧ a_J (s_P M2 113 4 (some n0)) = a_J M2 := ⟨⟨rfl, rfl, rfl⟩, rfl, rfl, rfl⟩
      show wpS cd (nv_S (tauN n0) (d + 13, [], 181, 54, [(0, .inr (.inr (some 113))), (1, .inl n)], [], s_P M2 113 4 (some n0))) _
      generalize s_P M2 113 4 (some n0) = M3 at A3 h3I h3P h3S ⊢
      have E3 : EnR (tauN n0) (shB M) lim M3 := by
        refine ⟨A3, fun j hj => ?_, ?_, by omega, fun j => by unfold tauN; omega⟩
        · rw [h3I, ((I.2.1 114 (by omega)).2.2 j).1, hI1 114 j (by rfl)]; rfl
        · rw [h3I, ((I.2.1 113 (by omega)).2.2 7).1, hV1.2.1]; exact hlim
      refine nv_cut hct nvR 162 0 8 (S' := (d + 12, [(181, 63, [(0, .inr (.inr (some 113))), (1, .inl n)], [])], 162, 0, la 0 [.inr (.inr (some 113))], [], (s_I M3 113 9 (0 : Int32)))) A3 rfl ?_
      have E4 : EnR (tauN n0) (shB M) lim (s_I M3 113 9 0) := En_s rfl E3
      have hat : (a_I (s_I M3 113 9 0) 113 8).toInt = ((0 : Nat) : Int) := by rw [aI_nk (fun q => absurd q.2 (by decide)), h3I, ((I.2.1 113 (by omega)).2.2 8).1, hV1.2.2.1]; rfl
      refine nv_callv (r_goesOn hz E4 (Nat.zero_le _) hat (by rw [aI_at]; decide)) (fun M5 ⟨f5, T5⟩ => ?_)
      have E5 := Fx_E (by decide) f5 E4
      have hM5 : ∀ a j, n0 ≤ a → a_I M5 a j = a_I M2 a j := fun a j ha => by rw [f5.2.2.1 a j (fun e => by omega), aI_nk (fun q => by omega), h3I]
      have hz5 : ∀ j, a_I M5 n0 j = if j = 7 then -1 else 0 := fun j => by rw [hM5 n0 j (Nat.le_refl _)]; exact I.2.2.1.2.2 j
      have hy5 : ∀ i j, i < 14 → a_I M5 (n0 + 1 + i) j = 0 := fun i j hi => by rw [hM5 _ j (by omega)]; exact (I.2.2.2 i hi).2 j
      have R5 : RdR n0 (shB M) lim M5 M5 (.inl 0) L0 := by
        refine ⟨E5, ⟨Nat.zero_le _, T5, ?_⟩, Ff_rf, ?_, fun i hi => absurd hi (Nat.not_lt_zero i), Or.inl ⟨rfl, rfl⟩, fun q hq => ?_⟩
        · rw [Fx_I f5 (by decide), aI_nk (fun q => absurd q.2 (by decide)), h3I, ((I.2.1 113 (by omega)).2.2 13).1]; exact hV1.2.2.2
        · unfold LsA; rw [hz5, hz5, hz5, hz5, hz5, hz5, hz5, hz5, hz5, hz5]; decide
        · have e9 := hy5 8 q (by omega)
          have e10 := hy5 9 q (by omega)
          rw [show n0 + 1 + 8 = n0 + 9 by omega] at e9
          rw [show n0 + 1 + 9 = n0 + 10 by omega] at e10
          rw [e9, e10]
          exact ⟨⟨by decide, by decide⟩, fun h => absurd h (Nat.not_lt_zero q), by decide, by decide⟩
      refine nv_cut hct nvR 170 0 5 (S' := (d + 12, [(181, 67, [(0, .inr (.inr (some 113))), (1, .inl n)], [])], 170, 0, la 0 [.inr (.inr (some 113))], [], M5)) E5.1 rfl ?_
      refine nv_callv (r_readShop hz R5 (show wfL L0 from rfl)) (fun M6 R6 => ?_)
      have hF6 : FrF n0 M5 M6 := R6.2.2.1
      have hK6 : a_K M6 = a_K M2 ∧ a_N M6 = a_N M2 ∧ a_n M6 = a_n M2 ∧ a_c M6 = a_c M2 ∧ a_z M6 = a_z M2 := ⟨hF6.2.1.1.trans (f5.2.1.1.trans h3S.2.1), hF6.2.1.2.1.trans (f5.2.1.2.1.trans h3S.2.2.1), hF6.1.1.trans (f5.1.1.trans h3S.1.1), hF6.1.2.2.trans (f5.1.2.2.trans h3S.1.2.2), hF6.1.2.1.trans (f5.1.2.1.trans h3S.1.2.1)⟩
      have hP6 : ∀ a j, a_P M6 a j = if a = 113 ∧ j = 4 then some n0 else a_P M2 a j := fun a j => by rw [hF6.2.1.2.2, f5.2.1.2.2]; exact h3P a j
      have hI6 : ∀ a j, a < n0 → (a = 113 → j ∉ [8, 9, 10, 11, 12, 13, 14]) → (Nat.beq a 113 && [0, 6, 7, 8, 13].any (Nat.beq j)) = false → a_I M6 a j = a_I M a j := fun a j ha hj hj2 => by
        rw [hF6.2.2.1 a j ha hj, f5.2.2.1 a j (fun e w => hj e ((show ∀ x ∈ [8, 9, 10, 11, 12], x ∈ [8, 9, 10, 11, 12, 13, 14] by decide) j w)), aI_nk (fun q => hj q.1 (by rw [q.2]; decide)), h3I, ((I.2.1 a ha).2.2 j).1]
        exact hI1 a j hj2
      have hJ6 : ∀ a j, a < n0 → ¬ (a = 113 ∧ j = 15) → a_J M6 a j = a_J M a j := fun a j ha hj => by
        rw [hF6.2.2.2 a j ha hj, f5.2.2.2 a j hj, aJ_sI, h3S.2.2.2, ((I.2.1 a ha).2.2 j).2.1, hS1.2.2.2.1]
      have hQ6 : ∀ a j, a < n0 → ¬ (a = 113 ∧ j = 4) → a_P M6 a j = a_P M a j := fun a j ha hj => by
        rw [hP6, if_neg hj, ((I.2.1 a ha).2.2 j).2.2, hS1.2.2.2.2]
      have h66 : a_I M6 113 6 = 0 := by rw [hF6.2.2.1 113 6 (by omega) (fun _ => by decide), Fx_I f5 (by decide), aI_nk (fun q => absurd q.2 (by decide)), h3I, ((I.2.1 113 (by omega)).2.2 6).1]; exact hV1.1
      have hNw : ∀ M9, a_K M9 = a_K M6 → a_N M9 = a_N M6 → a_n M9 = a_n M6 → a_c M9 = a_c M6 → a_z M9 = a_z M6 → (∀ j, a_P M9 n0 j = a_P M6 n0 j) → NwF n0 M M9 := fun M9 g1 g2 g3 g4 g5 g6 => by
        have i1 := I.1
        refine ⟨⟨by rw [g3, hK6.2.2.1]; omega, by rw [g4, hK6.2.2.2.1, i1.2.1, hS1.1.2.2], by rw [g5, hK6.2.2.2.2]; have := hS1.1.2.1; omega⟩, ⟨by rw [g1, hK6.1]; exact I.2.2.1.1, by rw [g2, hK6.2.1]; exact I.2.2.1.2.1⟩, fun i hi => ⟨by rw [g1, hK6.1]; exact (I.2.2.2 i hi).1.1, by rw [g2, hK6.2.1]; exact (I.2.2.2 i hi).1.2.1, ?_⟩⟩
        rw [g6, hP6, if_neg (by omega)]
        exact (I.2.2.2 i hi).1.2.2
      refine nv_cut hct nvR 181 71 5 (S' := (d + 13, [], 181, 71, [(0, .inr (.inr (some 113))), (1, .inl n)], [.inl (a_I M6 113 13)], M6)) R6.1.1 rfl ?_
      have hsm : endM (shB M) lim (lnsF (shB M) lim 701 L0 0).1 (lnsF (shB M) lim 701 L0 0).2 = shM (shB M) lim := rfl
      rw [hsm] at R6
      cases hm : shM (shB M) lim with
      | inr f =>
        have S := R6.2.1
        rw [hm] at S
        have hf1 := S.2.2.2
        refine nv_if hct false rfl (zcF2 S.2.1 (by omega)) ?_
        refine nv_cut hct nvR 181 88 11 (S' := (d + 13, [], 181, 88, [(0, .inr (.inr (some 113))), (1, .inl n)], [.inl (-1 : Int32)], (s_I (s_I M6 113 1 (4 : Int32)) 113 2 (a_I M6 113 14)))) R6.1.1 rfl ?_
        refine nv_iret hct rfl rfl ⟨_, rfl, Or.inr ⟨by omega, hNw _ rfl rfl rfl rfl rfl (fun _ => rfl), h66, ?_, Or.inl ⟨f.1, f.2, hm, rfl, ⟨fun a ha => ?_, fun a j ha hg => ?_, fun a j ha hj => hJ6 a j ha hj, fun a j ha hj => hQ6 a j ha (fun e => hj ⟨e.1, Or.inr e.2⟩)⟩, hQ6 113 3 (by omega) (fun e => absurd e.2 (by decide)), S.2.1, hf1, rfl, S.2.2.1⟩⟩⟩
        · show a_P M6 113 4 = _; rw [hP6, if_pos ⟨rfl, rfl⟩]
        · show a_K M6 a = _ ∧ a_N M6 a = _
          rw [hK6.1, hK6.2.1, (I.2.1 a ha).1, (I.2.1 a ha).2.1, hS1.2.1, hS1.2.2.1]
          exact ⟨rfl, rfl⟩
        · have hne : ∀ x, (Nat.ble x 2 || (Nat.ble 6 x && Nat.ble x 14)) = true → ¬ (a = 113 ∧ j = x) := fun x hx e => by
            rw [e.1, e.2] at hg; unfold gSf at hg; rw [hx] at hg; cases hg
          rw [aI_nk (hne 2 rfl), aI_nk (hne 1 rfl)]
          refine hI6 a j ha (fun e w => ?_) ?_
          · have : ∀ x ∈ [8, 9, 10, 11, 12, 13, 14], (Nat.ble x 2 || (Nat.ble 6 x && Nat.ble x 14)) = true := by decide
            exact hne j (this j w) ⟨e, rfl⟩
          · cases hb : (Nat.beq a 113 && [0, 6, 7, 8, 13].any (Nat.beq j)) with
            | false => rfl
            | true =>
              obtain ⟨b1, b2⟩ := (Bool.and_eq_true _ _).mp hb
              obtain ⟨x, x1, x2⟩ := List.any_eq_true.mp b2
              have : ∀ x ∈ [0, 6, 7, 8, 13], (Nat.ble x 2 || (Nat.ble 6 x && Nat.ble x 14)) = true := by decide
              exact absurd ⟨nbT b1, nbT x2⟩ (hne x (this x x1))
      | inl p =>
        have S := R6.2.1
        rw [hm] at S
        obtain ⟨l1, _, l3⟩ := R6.2.2.2 p hm
        refine nv_if hct true rfl (zcT2 rfl (by rw [S.2.2]; decide)) ?_
        refine nv_cut hct nvR 181 94 6 (S' := (d + 13, [], 181, 94, [(0, .inr (.inr (some 113))), (1, .inl n)], [.inr (.inr (some 137)), .inr (.inr (some 113))], M6)) R6.1.1 rfl ?_
        refine nv_z hz (pc' := 97) (lo' := [(0, .inr (.inr (some 113))), (1, .inl n)]) (st' := []) (M' := s_P M6 113 3 (some n0)) rfl (by
          have hk13 := nv_kd (ci := 13) (a := 113) R6.1.1 rfl
          show (bif Nat.blt (nv_s (tauN n0) 113) (a_n M6) && Nat.beq (a_K M6 (nv_s (tauN n0) 113)) 13 then _ else none) = _
          rw [hk13]
          rfl) ?_
        have A7 := nvS_A hn1 R6.1.1
        have h7P : ∀ a j, a_P (s_P M6 113 3 (some n0)) a j = if a = 113 ∧ j = 3 then some n0 else a_P M6 a j := fun a j => aP_sP
        have h7 : ∀ a j, a_I (s_P M6 113 3 (some n0)) a j = a_I M6 a j := fun _ _ => rfl
        have h7S : (a_n (s_P M6 113 3 (some n0)) = a_n M6 ∧ a_z (s_P M6 113 3 (some n0)) = a_z M6 ∧ a_c (s_P M6 113 3 (some n0)) = a_c M6) ∧ a_K (s_P M6 113 3 (some n0)) = a_K M6 ∧ a_N (s_P M6 113 3 (some n0)) = a_N M6 ∧ a_J (s_P M6 113 3 (some n0)) = a_J M6 := ⟨⟨rfl, rfl, rfl⟩, rfl, rfl, rfl⟩
        generalize s_P M6 113 3 (some n0) = M7 at A7 h7P h7 h7S ⊢
        refine nv_cut hct nvS 187 0 12 (S' := (d + 11, [(188, 12, [(0, .inr (.inr (some 113))), (1, .inl (0 : Int32))], []), (181, 102, [(0, .inr (.inr (some 113))), (1, .inl n)], [])], 187, 0, la 0 [.inr (.inr (some 115))], [], (s_I M7 113 16 (0 : Int32)))) A7 rfl ?_
        show wpS cd (nv_S (tauN n0) (d + 11, [(188, 12, [(0, .inr (.inr (some 113))), (1, .inl (0 : Int32))], []), (181, 102, [(0, .inr (.inr (some 113))), (1, .inl n)], [])], 187, 0, la 0 [.inr (.inr (some 115))], [], (s_I M7 113 16 (0 : Int32)))) _
        have A8 : nv_A nvS (tauN n0) (s_I M7 113 16 (0 : Int32)) := nv_As A7
        have hcl : wpS cd (d + 11, [], 187, 0, nv_l (tauN n0) (la 0 [.inr (.inr (some 115))]), [], (s_I M7 113 16 (0 : Int32))) (fun r M' => r = none ∧ eqE fcl (s_I M7 113 16 (0 : Int32)) M' ∧ ∀ k, k < 10 → a_I M' 115 k = 0) := by
          show wpS cd (nv_S (tauN n0) (d + 11, [], 187, 0, la 0 [.inr (.inr (some 115))], [], (s_I M7 113 16 (0 : Int32)))) _
          refine nv_cut hct nvS 187 2 5 (S' := (d + 11, [], 187, 2, [(1, .inl (0 : Int32)), (0, .inr (.inr (some 115)))], [], (s_I M7 113 16 (0 : Int32)))) A8 rfl ?_
          exact r_clr hct 10 (j := 0) rfl (by omega) rfl A8 (fun k hk => absurd hk (Nat.not_lt_zero k))
        refine nv_callv (hcl) (fun M8 ⟨q8, c8⟩ => ?_)
        have A9 := eqE_A q8 A8
        refine nv_cut hct nvS 181 114 15 (S' := (d + 13, [], 181, 114, [(2, .inl (0 : Int32)), (0, .inr (.inr (some 113))), (1, .inl n)], [], (s_I (s_I (s_I M8 113 31 (0 : Int32)) 113 28 (0 : Int32)) 113 37 (0 : Int32)))) A9 rfl ?_
        have A10 : nv_A nvS (tauN n0) (s_I (s_I (s_I M8 113 31 (0 : Int32)) 113 28 (0 : Int32)) 113 37 (0 : Int32)) := (nv_As (nv_As (nv_As A9)))
        refine r_wl hct 30 (j := 0) rfl (by omega) rfl A10 (fun k hk => absurd hk (Nat.not_lt_zero k)) (fun M10 i10 q10 c10 => ?_)
        have A11 := eqE_A q10 A10
        refine nv_cut hct nvS 181 168 22 (S' := (d + 13, [], 181, 168, [(2, .inl i10), (0, .inr (.inr (some 113))), (1, .inl n)], [.inl (a_I (s_I (s_I M10 113 26 (0 : Int32)) 113 35 (0 : Int32)) n0 10)], (s_I (s_I (s_I (s_I M10 113 26 (0 : Int32)) 113 35 (0 : Int32)) 113 1 (0 : Int32)) 113 2 (-1 : Int32)))) A11 rfl ?_
        have hI10 : ∀ a j, gSt a j = false → a_I M10 a j = a_I M6 a j := fun a j hg => by
          have hne : ∀ x, x ∈ [16, 26, 28, 31, 35, 37] → ¬ (a = 113 ∧ j = x) := fun x hx e => by
            rw [e.1, e.2] at hg
            have : ∀ x ∈ [16, 26, 28, 31, 35, 37], gSt 113 x = true := by decide
            rw [this x hx] at hg; cases hg
          have hna : ∀ x, x ∈ [115, 131, 132, 135] → ¬ a = x := fun x hx e => by
            rw [e] at hg
            have : ∀ x ∈ [115, 131, 132, 135], [115, 131, 132, 135].any (Nat.beq x) = true := by decide
            unfold gSt at hg; rw [this x hx, Bool.or_true, Bool.or_true] at hg; cases hg
          have e1 := q10.2.2 a j (by unfold fwl; rw [nbF (hna 131 (by decide)), nbF (hna 132 (by decide)), nbF (hna 135 (by decide))]; rfl)
          have e2 := q8.2.2 a j (by unfold fcl; exact nbF (hna 115 (by decide)))
          rw [e1, aI_nk (hne 37 (by decide)), aI_nk (hne 28 (by decide)), aI_nk (hne 31 (by decide)), e2, aI_nk (hne 16 (by decide)), h7]
        have h113 : ∀ j, [16, 28, 31, 37].any (Nat.beq j) = false → a_I M10 113 j = a_I M6 113 j := fun j hj => by
          have hne : ∀ x, x ∈ [16, 28, 31, 37] → ¬ ((113 : Nat) = 113 ∧ j = x) := fun x hx e => by
            rw [e.2] at hj
            have : ∀ x ∈ [16, 28, 31, 37], [16, 28, 31, 37].any (Nat.beq x) = true := by decide
            rw [this x hx] at hj; cases hj
          rw [q10.2.2 113 j rfl, aI_nk (hne 37 (by decide)), aI_nk (hne 28 (by decide)), aI_nk (hne 31 (by decide)), q8.2.2 113 j rfl, aI_nk (hne 16 (by decide)), h7]
        have hF : ∀ j, a_I M10 n0 j = a_I M6 n0 j := fun j => hI10 n0 j (by unfold gSt gSf; rw [nbF (show ¬ n0 = 113 by omega)]; simp only [Bool.false_and, Bool.false_or, List.any_cons, List.any_nil, Bool.or_false, nbF (show ¬ n0 = 115 by omega), nbF (show ¬ n0 = 131 by omega), nbF (show ¬ n0 = 132 by omega), nbF (show ¬ n0 = 135 by omega)])
        have hF2 : ∀ i j, a_I M10 (n0 + i) j = a_I M6 (n0 + i) j := fun i j => hI10 (n0 + i) j (by unfold gSt gSf; rw [nbF (show ¬ n0 + i = 113 by omega)]; simp only [Bool.false_and, Bool.false_or, List.any_cons, List.any_nil, Bool.or_false, nbF (show ¬ n0 + i = 115 by omega), nbF (show ¬ n0 + i = 131 by omega), nbF (show ¬ n0 + i = 132 by omega), nbF (show ¬ n0 + i = 135 by omega)])
        have hK10 : (a_n M10 = a_n M6 ∧ a_z M10 = a_z M6 ∧ a_c M10 = a_c M6) ∧ (a_K M10 = a_K M6 ∧ a_N M10 = a_N M6 ∧ a_J M10 = a_J M6 ∧ a_P M10 = a_P M7) := ⟨⟨q10.1.1.trans (q8.1.1.trans h7S.1.1), q10.1.2.1.trans (q8.1.2.1.trans h7S.1.2.1), q10.1.2.2.trans (q8.1.2.2.trans h7S.1.2.2)⟩, q10.2.1.1.trans (q8.2.1.1.trans h7S.2.1), q10.2.1.2.1.trans (q8.2.1.2.1.trans h7S.2.2.1), q10.2.1.2.2.1.trans (q8.2.1.2.2.1.trans h7S.2.2.2), q10.2.1.2.2.2.trans q8.2.1.2.2.2⟩
        have hzz : ∀ a j, a ≠ 113 → a_I (s_I (s_I (s_I (s_I M10 113 26 (0 : Int32)) 113 35 (0 : Int32)) 113 1 (0 : Int32)) 113 2 (-1 : Int32)) a j = a_I M10 a j := fun a j ha => by rw [aI_nk (fun q => ha q.1), aI_nk (fun q => ha q.1), aI_nk (fun q => ha q.1), aI_nk (fun q => ha q.1)]
        have hLA : LsA n0 (s_I (s_I (s_I (s_I M10 113 26 (0 : Int32)) 113 35 (0 : Int32)) 113 1 (0 : Int32)) 113 2 (-1 : Int32)) (shL (shB M) lim) := by
          unfold LsA; rw [hzz n0 _ (by omega), hzz n0 _ (by omega), hzz n0 _ (by omega), hzz n0 _ (by omega), hzz n0 _ (by omega), hzz n0 _ (by omega), hzz n0 _ (by omega), hzz n0 _ (by omega), hzz n0 _ (by omega), hzz n0 _ (by omega), hF, hF, hF, hF, hF, hF, hF, hF, hF, hF]; exact l1
        have hLF : LsF n0 (s_I (s_I (s_I (s_I M10 113 26 (0 : Int32)) 113 35 (0 : Int32)) 113 1 (0 : Int32)) 113 2 (-1 : Int32)) (shL (shB M) lim) := by
          unfold LsF; rw [hzz (n0 + 8) _ (by omega), hzz (n0 + 8) _ (by omega), hF2, hF2]
          refine ⟨l3.1, fun k hk => ?_⟩
          rw [hzz (n0 + 9) _ (by omega), hzz (n0 + 10) _ (by omega), hF2, hF2]; exact l3.2 k hk
        refine nv_iret hct rfl rfl ⟨_, rfl, Or.inr ⟨by omega, hNw _ hK10.2.1 hK10.2.2.1 hK10.1.1 hK10.1.2.2 hK10.1.2.1 (fun j => ?_), ?_, ?_, Or.inr ⟨p, hm, ⟨fun a ha => ?_, fun a j ha hg => ?_, fun a j ha hj => ?_, fun a j ha hj => ?_⟩, ?_, ⟨?_, rfl, rfl⟩, ?_, ⟨hLA, hLF, endM_l hm⟩, ⟨?_, rfl, ?_, ?_, rfl, ?_⟩, fun k hk => ?_, fun k hk => ?_⟩⟩⟩
        · show a_P M10 n0 j = _; rw [hK10.2.2.2.2, h7P, if_neg (by omega)]
        · show a_I M10 113 6 = 0; rw [h113 6 (by decide)]; exact h66
        · show a_P M10 113 4 = _; rw [hK10.2.2.2.2, h7P, if_neg (by decide), hP6, if_pos ⟨rfl, rfl⟩]
        · show a_K M10 a = _ ∧ a_N M10 a = _
          rw [hK10.2.1, hK10.2.2.1, hK6.1, hK6.2.1, (I.2.1 a ha).1, (I.2.1 a ha).2.1, hS1.2.1, hS1.2.2.1]
          exact ⟨rfl, rfl⟩
        · have hne : ∀ x, gSt 113 x = true → ¬ (a = 113 ∧ j = x) := fun x hx e => by
            rw [e.1, e.2, hx] at hg; cases hg
          rw [aI_nk (hne 2 rfl), aI_nk (hne 1 rfl), aI_nk (hne 35 rfl), aI_nk (hne 26 rfl), hI10 a j hg]
          refine hI6 a j ha (fun e w => ?_) ?_
          · have : ∀ x ∈ [8, 9, 10, 11, 12, 13, 14], gSt 113 x = true := by decide
            exact hne j (this j w) ⟨e, rfl⟩
          · cases hb : (Nat.beq a 113 && [0, 6, 7, 8, 13].any (Nat.beq j)) with
            | false => rfl
            | true =>
              obtain ⟨b1, b2⟩ := (Bool.and_eq_true _ _).mp hb
              obtain ⟨x, x1, x2⟩ := List.any_eq_true.mp b2
              have : ∀ x ∈ [0, 6, 7, 8, 13], gSt 113 x = true := by decide
              exact absurd ⟨nbT b1, nbT x2⟩ (hne x (this x x1))
        · show a_J M10 a j = _; rw [hK10.2.2.2.1]; exact hJ6 a j ha hj
        · show a_P M10 a j = _; rw [hK10.2.2.2.2, h7P, if_neg (fun e => hj ⟨e.1, Or.inl e.2⟩)]; exact hQ6 a j ha (fun e => hj ⟨e.1, Or.inr e.2⟩)
        · show a_P M10 113 3 = _; rw [hK10.2.2.2.2, h7P, if_pos ⟨rfl, rfl⟩]
        · show a_I M10 113 13 = 0; rw [h113 13 (by decide)]; exact S.2.2
        · rw [aI_nk (fun q => by omega), aI_nk (fun q => by omega), hF]; exact l1.2.2.2.1.1
        · show a_I M10 113 16 = 0; rw [q10.2.2 113 16 rfl]; show a_I M8 113 16 = 0; rw [q8.2.2 113 16 rfl]; rfl
        · show a_I M10 113 28 = 0; rw [q10.2.2 113 28 rfl]; rfl
        · show a_I M10 113 31 = 0; rw [q10.2.2 113 31 rfl]; rfl
        · show a_I M10 113 37 = 0; rw [q10.2.2 113 37 rfl]; rfl
        · show a_I M10 115 k = 0; rw [q10.2.2 115 k rfl]; exact c8 k hk
        · exact c10 k hk

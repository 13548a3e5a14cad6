/-! The class's narrow, whole: printed by wip/gen/narrow2.py -/
theorem fcu_c {c k : Nat} (hc1 : c ≠ 95) (hc2 : c ≠ 99) (hc3 : c ≠ 100) : fcu c k = false := by
  unfold fcu
  rw [nbF hc1, nbF hc2, nbF hc3]
  rfl
theorem nv300 {c : Nat} : nv_s (tauC c) 300 = c := rfl
set_option maxHeartbeats 4000000 in
theorem cf_sw0 {cd : Nat → Nat → Option aI} {z : Bool} (hz : ∀ m p i, cd0 z m p = some i → cd m p = some i) {c : Nat} (hc1 : c ≠ 95) (hc2 : c ≠ 99) (hc3 : c ≠ 100) {n : Nat} {nI k rr : Int32} (hn : nI.toInt = (n : Int)) (hn2 : 2 ≤ n) (hn3 : n ≤ 30) {M : aM} (hA : nv_A nvV (tauC c) M) (h0 : a_I M c 0 = nI) (hp : a_I M 95 6 = 0) {d : Nat} {Q : aQ} : ∀ (f : Nat) {j : Nat} {i : Int32}, 1 ≤ j → j + 1 + f = n → i.toInt = (j : Int) → (∀ i', wpS cd (nv_S (tauC c) (d + 2, [], 99, 160, [(4, .inl i'), (3, .inl rr), (0, .inr (.inr (some 95))), (1, .inr (.inr (some 300))), (2, .inl k)], [], M)) Q) → wpS cd (nv_S (tauC c) (d + 2, [], 99, 129, [(4, .inl i), (3, .inl rr), (0, .inr (.inr (some 95))), (1, .inr (.inr (some 300))), (2, .inl k)], [], M)) Q := by
  have hct := hc_of hz
  have hin : (a_I M (nv_s (tauC c) 300) 0 - 1).toInt = (n : Int) - 1 := by rw [nv300, h0]; exact sub_1 hn (by omega) (by omega)
  intro f
  induction f with
  | zero =>
    intro j i h1 h2 hi q
    refine nv_cut hct nvV 99 137 8 (S' := (d + 2, [], 99, 137, [(4, .inl i), (3, .inl rr), (0, .inr (.inr (some 95))), (1, .inr (.inr (some 300))), (2, .inl k)], [.inl ((a_I M (nv_s (tauC c) 300) 0) - (1 : Int32)), .inl i], M)) hA rfl ?_
    refine nv_ifc hct true rfl (ccT4 hi hin (by omega)) ?_
    exact q i
  | succ f ih =>
    intro j i h1 h2 hi q
    have hip : (i + 1).toInt = ((j + 1 : Nat) : Int) := by rw [add_p hi (by omega) (by omega)]; omega
    refine nv_cut hct nvV 99 137 8 (S' := (d + 2, [], 99, 137, [(4, .inl i), (3, .inl rr), (0, .inr (.inr (some 95))), (1, .inr (.inr (some 300))), (2, .inl k)], [.inl ((a_I M (nv_s (tauC c) 300) 0) - (1 : Int32)), .inl i], M)) hA rfl ?_
    refine nv_ifc hct false rfl (ccF4 hi hin (by omega)) ?_
    refine nv_cut hct nvV 99 144 5 (S' := (d + 2, [], 99, 144, [(4, .inl i), (3, .inl rr), (0, .inr (.inr (some 95))), (1, .inr (.inr (some 300))), (2, .inl k)], [.inl (29 : Int32), .inl i], M)) hA rfl ?_
    refine nv_ifc hct false rfl (ccF4 hi (show ((29 : Int32)).toInt = 29 from rfl) (show (j : Int) < 29 by omega)) ?_
    refine nv_cut hct nvV 100 0 7 (S' := (d + 1, [(99, 154, [(4, .inl i), (3, .inl rr), (0, .inr (.inr (some 95))), (1, .inr (.inr (some 300))), (2, .inl k)], [])], 100, 0, la 0 [.inr (.inr (some 95)), .inl i, .inl k], [], M)) hA rfl ?_
    refine nv_callv (cf_n30 hz (d := d) hA hi h1 (by omega) hp) (fun N1 e1 => ?_)
    subst e1
    refine nv_cut hct nvV 99 129 5 (S' := (d + 2, [], 99, 129, [(4, .inl (i + 1)), (3, .inl rr), (0, .inr (.inr (some 95))), (1, .inr (.inr (some 300))), (2, .inl k)], [], N1)) hA rfl ?_
    exact ih (j := j + 1) (by omega) (by omega) hip q
set_option maxHeartbeats 4000000 in
theorem cf_sw1 {cd : Nat → Nat → Option aI} {z : Bool} (hz : ∀ m p i, cd0 z m p = some i → cd m p = some i) {c : Nat} (hc1 : c ≠ 95) (hc2 : c ≠ 99) (hc3 : c ≠ 100) {n : Nat} {nI k rr : Int32} (hn : nI.toInt = (n : Int)) (hn2 : 2 ≤ n) (hn3 : n ≤ 30) (hk : 0 ≤ k.toInt ∧ k.toInt ≤ 99) {d : Nat} {Q : aQ} : ∀ (f : Nat) {j : Nat} {i : Int32} {m : Bool} {a : spA} {M : aM}, 1 ≤ j → j + 1 + f = n → i.toInt = (j : Int) → nv_A nvV (tauC c) M → a_I M c 0 = nI → SpC9 M a → BD n a → a_I M 95 6 = 1 → a_I M 95 7 = (bif m then 1 else 0) → (∀ M' i', eqE fcu M M' → (((swp k f j m a).2 = true ∧ SpC9 M' (swp k f j m a).1.1 ∧ a_I M' 95 6 = 1 ∧ a_I M' 95 7 = (bif (swp k f j m a).1.2 then 1 else 0)) ∨ ((swp k f j m a).2 = false ∧ a_I M' 95 6 = 0)) → wpS cd (nv_S (tauC c) (d + 2, [], 99, 160, [(4, .inl i'), (3, .inl rr), (0, .inr (.inr (some 95))), (1, .inr (.inr (some 300))), (2, .inl k)], [], M')) Q) → wpS cd (nv_S (tauC c) (d + 2, [], 99, 129, [(4, .inl i), (3, .inl rr), (0, .inr (.inr (some 95))), (1, .inr (.inr (some 300))), (2, .inl k)], [], M)) Q := by
  have hct := hc_of hz
  intro f
  induction f with
  | zero =>
    intro j i m a M h1 h2 hi hA h0 hS hB hp hch q
    have hin : (a_I M (nv_s (tauC c) 300) 0 - 1).toInt = (n : Int) - 1 := by rw [nv300, h0]; exact sub_1 hn (by omega) (by omega)
    refine nv_cut hct nvV 99 137 8 (S' := (d + 2, [], 99, 137, [(4, .inl i), (3, .inl rr), (0, .inr (.inr (some 95))), (1, .inr (.inr (some 300))), (2, .inl k)], [.inl ((a_I M (nv_s (tauC c) 300) 0) - (1 : Int32)), .inl i], M)) hA rfl ?_
    refine nv_ifc hct true rfl (ccT4 hi hin (by omega)) ?_
    exact q M i eqE_rf (Or.inl ⟨rfl, hS, hp, hch⟩)
  | succ f ih =>
    intro j i m a M h1 h2 hi hA h0 hS hB hp hch q
    have hin : (a_I M (nv_s (tauC c) 300) 0 - 1).toInt = (n : Int) - 1 := by rw [nv300, h0]; exact sub_1 hn (by omega) (by omega)
    have hip : (i + 1).toInt = ((j + 1 : Nat) : Int) := by rw [add_p hi (by omega) (by omega)]; omega
    have sT : spB j (spS k j a) = true → swp k (f + 1) j m a = ((spS k j a, spH k j a || m), false) := fun e => by
      show (bif spB j (spS k j a) then _ else _) = _; rw [e]; rfl
    have sF : spB j (spS k j a) = false → swp k (f + 1) j m a = swp k f (j + 1) (spH k j a || m) (spS k j a) := fun e => by
      show (bif spB j (spS k j a) then _ else _) = _; rw [e]; rfl
    refine nv_cut hct nvV 99 137 8 (S' := (d + 2, [], 99, 137, [(4, .inl i), (3, .inl rr), (0, .inr (.inr (some 95))), (1, .inr (.inr (some 300))), (2, .inl k)], [.inl ((a_I M (nv_s (tauC c) 300) 0) - (1 : Int32)), .inl i], M)) hA rfl ?_
    refine nv_ifc hct false rfl (ccF4 hi hin (by omega)) ?_
    refine nv_cut hct nvV 99 144 5 (S' := (d + 2, [], 99, 144, [(4, .inl i), (3, .inl rr), (0, .inr (.inr (some 95))), (1, .inr (.inr (some 300))), (2, .inl k)], [.inl (29 : Int32), .inl i], M)) hA rfl ?_
    refine nv_ifc hct false rfl (ccF4 hi (show ((29 : Int32)).toInt = 29 from rfl) (show (j : Int) < 29 by omega)) ?_
    refine nv_cut hct nvV 100 0 7 (S' := (d + 1, [(99, 154, [(4, .inl i), (3, .inl rr), (0, .inr (.inr (some 95))), (1, .inr (.inr (some 300))), (2, .inl k)], [])], 100, 0, la 0 [.inr (.inr (some 95)), .inl i, .inl k], [], M)) hA rfl ?_
    refine nv_callv (cf_n31 hz (d := d) hA hS hB hi h1 (by omega) hn3 hk hp) (fun M1 ⟨E1, R1⟩ => ?_)
    have A1 := eqE_A E1 hA
    have h01 : a_I M1 c 0 = nI := by rw [E1.2.2 c 0 (fcu_c hc1 hc2 hc3)]; exact h0
    refine nv_cut hct nvV 99 129 5 (S' := (d + 2, [], 99, 129, [(4, .inl (i + 1)), (3, .inl rr), (0, .inr (.inr (some 95))), (1, .inr (.inr (some 300))), (2, .inl k)], [], M1)) A1 rfl ?_
    rcases R1 with ⟨g1, g2, g3, g4⟩ | ⟨g1, g2⟩
    · rw [sF g1] at q
      refine ih (j := j + 1) (m := spH k j a || m) (by omega) (by omega) hip A1 h01 g2 (spS_bd h1 hB g1) g3 ?_ (fun M' i' e => q M' i' (eqE_tr E1 e))
      rw [g4, hch]
      cases spH k j a <;> cases m <;> rfl
    · rw [sT g1] at q
      exact cf_sw0 hz hc1 hc2 hc3 hn hn2 hn3 A1 h01 g2 f (j := j + 1) (by omega) (by omega) hip (fun i' => q M1 i' E1 (Or.inr ⟨rfl, g2⟩))
set_option maxHeartbeats 8000000 in
theorem cf_rnd {cd : Nat → Nat → Option aI} {z : Bool} (hz : ∀ m p i, cd0 z m p = some i → cd m p = some i) {c : Nat} (hc1 : c ≠ 95) (hc2 : c ≠ 99) (hc3 : c ≠ 100) {n : Nat} {nI k : Int32} (hn : nI.toInt = (n : Int)) (hn2 : 2 ≤ n) (hn3 : n ≤ 30) (hk : 0 ≤ k.toInt ∧ k.toInt ≤ 99) {d : Nat} : ∀ (F : Nat) {r9 : Nat} {rr : Int32} {a : spA} {M : aM} {lo : aL}, mu2 n a < F → r9 + F ≤ 100000 → rr.toInt = (r9 : Int) → nv_A nvV (tauC c) M → a_I M c 0 = nI → SpC9 M a → BD n a → a_I M 95 6 = 1 → a_I M 95 7 = 1 → (lo = [(3, .inl rr), (0, .inr (.inr (some 95))), (1, .inr (.inr (some 300))), (2, .inl k)] ∨ ∃ i', lo = [(3, .inl rr), (4, .inl i'), (0, .inr (.inr (some 95))), (1, .inr (.inr (some 300))), (2, .inl k)]) → wpS cd (nv_S (tauC c) (d + 2, [], 99, 101, lo, [], M)) (fun r M' => ∃ y, r = some (.inl y) ∧ eqE fcu M M' ∧ (((spn k n F a).2 = true ∧ y = 1 ∧ a_I M' 95 6 = 1 ∧ SpC9 M' (spn k n F a).1) ∨ ((spn k n F a).2 = false ∧ y = 0 ∧ a_I M' 95 6 = 0))) := by
  have hct := hc_of hz
  intro F
  induction F with
  | zero => intro r9 rr a M lo h; exact absurd h (Nat.not_lt_zero _)
  | succ F ih =>
    intro r9 rr a M lo hF hr hrr hA h0 hS hB hp hch hlo
    have hrp : (rr + 1).toInt = ((r9 + 1 : Nat) : Int) := by rw [add_p hrr (by omega) (by omega)]; omega
    have main : ∀ lo', (lo' = [(4, .inl 1), (3, .inl rr), (0, .inr (.inr (some 95))), (1, .inr (.inr (some 300))), (2, .inl k)]) → wpS cd (nv_S (tauC c) (d + 2, [], 99, 129, lo', [], s_I M 95 7 0)) (fun r M' => ∃ y, r = some (.inl y) ∧ eqE fcu M M' ∧ (((spn k n (F + 1) a).2 = true ∧ y = 1 ∧ a_I M' 95 6 = 1 ∧ SpC9 M' (spn k n (F + 1) a).1) ∨ ((spn k n (F + 1) a).2 = false ∧ y = 0 ∧ a_I M' 95 6 = 0))) := fun lo' hlo' => by
      subst hlo'
      have hA1 : nv_A nvV (tauC c) (s_I M 95 7 0) := nv_As hA
      have hE1 : eqE fcu M (s_I M 95 7 0) := eqE_s eqE_rf rfl
      refine cf_sw1 hz hc1 hc2 hc3 hn hn2 hn3 hk (n - 2) (j := 1) (m := false) (a := a) (by omega) (by omega) rfl hA1 (by rw [aI_nk (fun q => hc1 q.1)]; exact h0) ⟨fun j => by rw [aI_nk (by omega)]; exact hS.1 j, fun j => by rw [aI_nk (by omega)]; exact hS.2 j⟩ hB (by rw [aI_nk (by omega)]; exact hp) (by rw [aI_at]; rfl) (fun M' i' e R => ?_)
      have hA' := eqE_A e hA1
      rcases R with ⟨g, g2, g3, g4⟩ | ⟨g, g2⟩
      · cases gg : (swp k (n - 2) 1 false a).1.2 with
        | true =>
          have e9 : spn k n (F + 1) a = spn k n F (swp k (n - 2) 1 false a).1.1 := by
            show (bif (swp k (n - 2) 1 false a).2 then (bif (swp k (n - 2) 1 false a).1.2 then _ else _) else _) = _
            rw [g, gg]; rfl
          rw [e9]
          rw [gg] at g4
          have hm2 := swp_m2 hn2 hB g gg
          refine nv_cut hct nvV 99 101 5 (S' := (d + 2, [], 99, 101, [(3, .inl (rr + 1)), (4, .inl (i')), (0, .inr (.inr (some 95))), (1, .inr (.inr (some 300))), (2, .inl k)], [], M')) hA' rfl ?_
          refine wpS_mono (ih (r9 := r9 + 1) (by omega) (by omega) hrp hA' (by rw [e.2.2 c 0 (fcu_c hc1 hc2 hc3), aI_nk (fun q => hc1 q.1)]; exact h0) g2 (swp_bd (n := n) (by omega) hB g) g3 g4 (Or.inr ⟨i', rfl⟩)) (fun r M2 h => ?_)
          obtain ⟨y, y1, y2, y3⟩ := h
          exact ⟨y, y1, eqE_tr hE1 (eqE_tr e y2), y3⟩
        | false =>
          have e9 : spn k n (F + 1) a = ((swp k (n - 2) 1 false a).1.1, true) := by
            show (bif (swp k (n - 2) 1 false a).2 then (bif (swp k (n - 2) 1 false a).1.2 then _ else _) else _) = _
            rw [g, gg]; rfl
          rw [e9]
          rw [gg] at g4
          have g4 : a_I M' 95 7 = 0 := g4
          have fin : ∃ y, (some (.inl (a_I M' 95 6)) : Option aV) = some (.inl y) ∧ eqE fcu M M' ∧ (((((swp k (n - 2) 1 false a).1.1, true) : spA × Bool).2 = true ∧ y = 1 ∧ a_I M' 95 6 = 1 ∧ SpC9 M' (((swp k (n - 2) 1 false a).1.1, true) : spA × Bool).1) ∨ ((((swp k (n - 2) 1 false a).1.1, true) : spA × Bool).2 = false ∧ y = 0 ∧ a_I M' 95 6 = 0)) := ⟨_, rfl, eqE_tr hE1 e, Or.inl ⟨rfl, g3, g3, g2⟩⟩
          have hbb : isB (a_I M' 95 6) = true := by rw [g3]; rfl
          refine nv_cut hct nvV 99 104 7 (S' := (d + 2, [], 99, 104, [(3, .inl (rr + 1)), (4, .inl (i')), (0, .inr (.inr (some 95))), (1, .inr (.inr (some 300))), (2, .inl k)], [.inl (100000 : Int32), .inl (rr + 1)], M')) hA' rfl ?_
          by_cases cr : 100000 ≤ r9 + 1
          · skip
            refine nv_ifc hct true rfl (ccT4 hrp (show ((100000 : Int32)).toInt = 100000 from rfl) (show (100000 : Int) ≤ _ by omega)) ?_
            refine nv_cut hct nvV 99 170 5 (S' := (d + 2, [], 99, 170, [(3, .inl (rr + 1)), (4, .inl (i')), (0, .inr (.inr (some 95))), (1, .inr (.inr (some 300))), (2, .inl k)], [.inl (a_I (M') 95 6)], M')) hA' rfl ?_
            exact nv_iret hct rfl (by rw [hbb]; rfl) fin
          · skip
            refine nv_ifc hct false rfl (ccF4 hrp (show ((100000 : Int32)).toInt = 100000 from rfl) (show _ < (100000 : Int) by omega)) ?_
            refine nv_cut hct nvV 99 111 5 (S' := (d + 2, [], 99, 111, [(3, .inl (rr + 1)), (4, .inl (i')), (0, .inr (.inr (some 95))), (1, .inr (.inr (some 300))), (2, .inl k)], [.inl (a_I (M') 95 7)], M')) hA' rfl ?_
            refine nv_if hct true rfl (zcT1 rfl (by rw [g4]; rfl)) ?_
            refine nv_cut hct nvV 99 170 5 (S' := (d + 2, [], 99, 170, [(3, .inl (rr + 1)), (4, .inl (i')), (0, .inr (.inr (some 95))), (1, .inr (.inr (some 300))), (2, .inl k)], [.inl (a_I (M') 95 6)], M')) hA' rfl ?_
            exact nv_iret hct rfl (by rw [hbb]; rfl) fin
      · have e9 : spn k n (F + 1) a = ((swp k (n - 2) 1 false a).1.1, false) := by
          show (bif (swp k (n - 2) 1 false a).2 then _ else _) = _
          rw [g]; rfl
        rw [e9]
        have fin : ∃ y, (some (.inl (a_I M' 95 6)) : Option aV) = some (.inl y) ∧ eqE fcu M M' ∧ (((((swp k (n - 2) 1 false a).1.1, false) : spA × Bool).2 = true ∧ y = 1 ∧ a_I M' 95 6 = 1 ∧ SpC9 M' (((swp k (n - 2) 1 false a).1.1, false) : spA × Bool).1) ∨ ((((swp k (n - 2) 1 false a).1.1, false) : spA × Bool).2 = false ∧ y = 0 ∧ a_I M' 95 6 = 0)) := ⟨_, rfl, eqE_tr hE1 e, Or.inr ⟨rfl, g2, g2⟩⟩
        have hbb : isB (a_I M' 95 6) = true := by rw [g2]; rfl
        refine nv_cut hct nvV 99 104 7 (S' := (d + 2, [], 99, 104, [(3, .inl (rr + 1)), (4, .inl (i')), (0, .inr (.inr (some 95))), (1, .inr (.inr (some 300))), (2, .inl k)], [.inl (100000 : Int32), .inl (rr + 1)], M')) hA' rfl ?_
        by_cases cr : 100000 ≤ r9 + 1
        · skip
          refine nv_ifc hct true rfl (ccT4 hrp (show ((100000 : Int32)).toInt = 100000 from rfl) (show (100000 : Int) ≤ _ by omega)) ?_
          refine nv_cut hct nvV 99 170 5 (S' := (d + 2, [], 99, 170, [(3, .inl (rr + 1)), (4, .inl (i')), (0, .inr (.inr (some 95))), (1, .inr (.inr (some 300))), (2, .inl k)], [.inl (a_I (M') 95 6)], M')) hA' rfl ?_
          exact nv_iret hct rfl (by rw [hbb]; rfl) fin
        · skip
          refine nv_ifc hct false rfl (ccF4 hrp (show ((100000 : Int32)).toInt = 100000 from rfl) (show _ < (100000 : Int) by omega)) ?_
          refine nv_cut hct nvV 99 111 5 (S' := (d + 2, [], 99, 111, [(3, .inl (rr + 1)), (4, .inl (i')), (0, .inr (.inr (some 95))), (1, .inr (.inr (some 300))), (2, .inl k)], [.inl (a_I (M') 95 7)], M')) hA' rfl ?_
          by_cases c7 : a_I M' 95 7 = 0
          · skip
            refine nv_if hct true rfl (zcT1 rfl (by rw [c7]; rfl)) ?_
            refine nv_cut hct nvV 99 170 5 (S' := (d + 2, [], 99, 170, [(3, .inl (rr + 1)), (4, .inl (i')), (0, .inr (.inr (some 95))), (1, .inr (.inr (some 300))), (2, .inl k)], [.inl (a_I (M') 95 6)], M')) hA' rfl ?_
            exact nv_iret hct rfl (by rw [hbb]; rfl) fin
          · skip
            refine nv_if hct false rfl (zcF1 rfl (fun w => c7 (Int32.toInt_inj.mp w))) ?_
            refine nv_cut hct nvV 99 118 5 (S' := (d + 2, [], 99, 118, [(3, .inl (rr + 1)), (4, .inl (i')), (0, .inr (.inr (some 95))), (1, .inr (.inr (some 300))), (2, .inl k)], [.inl (a_I (M') 95 6)], M')) hA' rfl ?_
            refine nv_if hct true rfl (zcT1 rfl (by rw [g2]; rfl)) ?_
            refine nv_cut hct nvV 99 170 5 (S' := (d + 2, [], 99, 170, [(3, .inl (rr + 1)), (4, .inl (i')), (0, .inr (.inr (some 95))), (1, .inr (.inr (some 300))), (2, .inl k)], [.inl (a_I (M') 95 6)], M')) hA' rfl ?_
            exact nv_iret hct rfl (by rw [hbb]; rfl) fin
    rcases hlo with rfl | ⟨i', rfl⟩
    · skip
      refine nv_cut hct nvV 99 104 5 (S' := (d + 2, [], 99, 104, [(3, .inl rr), (0, .inr (.inr (some 95))), (1, .inr (.inr (some 300))), (2, .inl k)], [.inl (100000 : Int32), .inl rr], M)) hA rfl ?_
      refine nv_ifc hct false rfl (ccF4 hrr (show ((100000 : Int32)).toInt = 100000 from rfl) (show _ < (100000 : Int) by omega)) ?_
      refine nv_cut hct nvV 99 111 5 (S' := (d + 2, [], 99, 111, [(3, .inl rr), (0, .inr (.inr (some 95))), (1, .inr (.inr (some 300))), (2, .inl k)], [.inl (a_I M 95 7)], M)) hA rfl ?_
      refine nv_if hct false rfl (zcF1 rfl (by rw [hch]; decide)) ?_
      refine nv_cut hct nvV 99 118 5 (S' := (d + 2, [], 99, 118, [(3, .inl rr), (0, .inr (.inr (some 95))), (1, .inr (.inr (some 300))), (2, .inl k)], [.inl (a_I M 95 6)], M)) hA rfl ?_
      refine nv_if hct false rfl (zcF1 rfl (by rw [hp]; decide)) ?_
      refine nv_cut hct nvV 99 129 8 (S' := (d + 2, [], 99, 129, [(4, .inl (1 : Int32)), (3, .inl rr), (0, .inr (.inr (some 95))), (1, .inr (.inr (some 300))), (2, .inl k)], [], (s_I M 95 7 (0 : Int32)))) hA rfl ?_
      exact main _ rfl
    · skip
      refine nv_cut hct nvV 99 104 5 (S' := (d + 2, [], 99, 104, [(3, .inl rr), (4, .inl (i')), (0, .inr (.inr (some 95))), (1, .inr (.inr (some 300))), (2, .inl k)], [.inl (100000 : Int32), .inl rr], M)) hA rfl ?_
      refine nv_ifc hct false rfl (ccF4 hrr (show ((100000 : Int32)).toInt = 100000 from rfl) (show _ < (100000 : Int) by omega)) ?_
      refine nv_cut hct nvV 99 111 5 (S' := (d + 2, [], 99, 111, [(3, .inl rr), (4, .inl (i')), (0, .inr (.inr (some 95))), (1, .inr (.inr (some 300))), (2, .inl k)], [.inl (a_I M 95 7)], M)) hA rfl ?_
      refine nv_if hct false rfl (zcF1 rfl (by rw [hch]; decide)) ?_
      refine nv_cut hct nvV 99 118 5 (S' := (d + 2, [], 99, 118, [(3, .inl rr), (4, .inl (i')), (0, .inr (.inr (some 95))), (1, .inr (.inr (some 300))), (2, .inl k)], [.inl (a_I M 95 6)], M)) hA rfl ?_
      refine nv_if hct false rfl (zcF1 rfl (by rw [hp]; decide)) ?_
      refine nv_cut hct nvV 99 129 8 (S' := (d + 2, [], 99, 129, [(4, .inl (1 : Int32)), (3, .inl rr), (0, .inr (.inr (some 95))), (1, .inr (.inr (some 300))), (2, .inl k)], [], (s_I M 95 7 (0 : Int32)))) hA rfl ?_
      exact main _ rfl
/-- the spans that the class's walls tell -/
def sc0 (M : aM) (n : Nat) (w : Int32) : spA := (fun j => if j < n then (if a_I M 96 j = 0 then -w else a_I M 97 j) else a_I M 99 j, fun j => if j < n then (if a_I M 96 j = 0 then w else a_I M 98 j) else a_I M 100 j)
theorem sc0_s {M M' : aM} {j : Nat} {w x y : Int32} (h : SpC9 M' (sc0 M j w)) (hx : x = if a_I M 96 j = 0 then -w else a_I M 97 j) (hy : y = if a_I M 96 j = 0 then w else a_I M 98 j) : SpC9 (s_I (s_I M' 99 j x) 100 j y) (sc0 M (j + 1) w) := by
  have q := SpC9_w (M' := s_I (s_I M' 99 j x) 100 j y) (j := j) (v := x) (w := y) h (fun i => by rw [aI_nk (by omega), aI_sI]; exact ifj) (fun i => by rw [aI_sI, aI_nk (by omega)]; exact ifj)
  have e1 : ∀ i, upF (sc0 M j w).1 j x i = (sc0 M (j + 1) w).1 i := fun i => by
    show (if i = j then x else if i < j then _ else _) = if i < j + 1 then _ else _
    by_cases e : i = j
    · subst e; rw [if_pos rfl, if_pos (show i < i + 1 by omega), hx]
    · rw [if_neg e]
      by_cases e2 : i < j
      · rw [if_pos e2, if_pos (show i < j + 1 by omega)]
      · rw [if_neg e2, if_neg (show ¬ i < j + 1 by omega)]
  have e2 : ∀ i, upF (sc0 M j w).2 j y i = (sc0 M (j + 1) w).2 i := fun i => by
    show (if i = j then y else if i < j then _ else _) = if i < j + 1 then _ else _
    by_cases e : i = j
    · subst e; rw [if_pos rfl, if_pos (show i < i + 1 by omega), hy]
    · rw [if_neg e]
      by_cases e2 : i < j
      · rw [if_pos e2, if_pos (show i < j + 1 by omega)]
      · rw [if_neg e2, if_neg (show ¬ i < j + 1 by omega)]
  exact ⟨fun i => (q.1 i).trans (e1 i), fun i => (q.2 i).trans (e2 i)⟩
def fci (a k : Nat) : Bool := Nat.beq a 99 || Nat.beq a 100
set_option maxHeartbeats 4000000 in
theorem cf_in {cd : Nat → Nat → Option aI} {z : Bool} (hz : ∀ m p i, cd0 z m p = some i → cd m p = some i) {c : Nat} (hc1 : c ≠ 95) (hc2 : c ≠ 99) (hc3 : c ≠ 100) {w k : Int32} {M : aM} {d : Nat} {Q : aQ} : ∀ (f : Nat) {j : Nat} {i : Int32} {Mk : aM}, j + f = 30 → i.toInt = (j : Int) → nv_A nvV (tauC c) Mk → a_I Mk c 1 = w → eqE fci M Mk → SpC9 Mk (sc0 M j w) → (∀ M' i', eqE fci M M' → SpC9 M' (sc0 M 30 w) → wpS cd (nv_S (tauC c) (d + 2, [], 99, 94, [(3, .inl i'), (0, .inr (.inr (some 95))), (1, .inr (.inr (some 300))), (2, .inl k)], [], M')) Q) → wpS cd (nv_S (tauC c) (d + 2, [], 99, 25, [(3, .inl i), (0, .inr (.inr (some 95))), (1, .inr (.inr (some 300))), (2, .inl k)], [], Mk)) Q := by
  have hct := hc_of hz
  intro f
  induction f with
  | zero =>
    intro j i Mk h2 hi hA h1 hE hS q1
    refine nv_cut hct nvV 99 28 5 (S' := (d + 2, [], 99, 28, [(3, .inl i), (0, .inr (.inr (some 95))), (1, .inr (.inr (some 300))), (2, .inl k)], [.inl (30 : Int32), .inl i], Mk)) hA rfl ?_
    refine nv_ifc hct true rfl (ccT4 hi (show ((30 : Int32)).toInt = 30 from rfl) (by omega)) ?_
    exact q1 Mk i hE (by rw [show 30 = j by omega]; exact hS)
  | succ f ih =>
    intro j i Mk h2 hi hA h1 hE hS q1
    have t0 := tnc hi
    have e5 : a_I Mk 96 i.toNatClampNeg = a_I M 96 j := by rw [t0]; exact hE.2.2 96 j rfl
    have e1 : a_I Mk 97 i.toNatClampNeg = a_I M 97 j := by rw [t0]; exact hE.2.2 97 j rfl
    have e2 : a_I Mk 98 i.toNatClampNeg = a_I M 98 j := by rw [t0]; exact hE.2.2 98 j rfl
    have hip : (i + 1).toInt = ((j + 1 : Nat) : Int) := by rw [add_p hi (by omega) (by omega)]; omega
    have fin : ∀ x y, x = (if a_I M 96 j = 0 then -w else a_I M 97 j) → y = (if a_I M 96 j = 0 then w else a_I M 98 j) → wpS cd (nv_S (tauC c) (d + 2, [], 99, 25, [(3, .inl (i + 1)), (0, .inr (.inr (some 95))), (1, .inr (.inr (some 300))), (2, .inl k)], [], (s_I (s_I Mk 99 i.toNatClampNeg x) 100 i.toNatClampNeg y))) Q := fun x y hx hy => by
      rw [t0]
      refine ih (j := j + 1) (by omega) hip hA ?_ (eqE_tr hE (eqE_s (eqE_s eqE_rf rfl) rfl)) (sc0_s hS hx hy) q1
      rw [aI_nk (fun q => hc3 q.1), aI_nk (fun q => hc2 q.1)]; exact h1
    refine nv_cut hct nvV 99 28 5 (S' := (d + 2, [], 99, 28, [(3, .inl i), (0, .inr (.inr (some 95))), (1, .inr (.inr (some 300))), (2, .inl k)], [.inl (30 : Int32), .inl i], Mk)) hA rfl ?_
    refine nv_ifc hct false rfl (ccF4 hi (show ((30 : Int32)).toInt = 30 from rfl) (by omega)) ?_
    refine nv_cut hct nvV 99 41 9 (S' := (d + 2, [], 99, 41, [(3, .inl i), (0, .inr (.inr (some 95))), (1, .inr (.inr (some 300))), (2, .inl k)], [.inl i, .inr (.inr (some 96)), .inl i, .inr (.inr (some 99))], Mk)) hA rfl ?_
    refine nv_ald hct hA rfl (show nvV.1 96 = 17 + 1 from rfl) (show nvV.2.1 96 = 30 + 1 from rfl) (inb_p hi (by omega)) ?_
    by_cases cc : a_I M 96 j = 0
    · skip
      refine nv_if hct true rfl (zcT1 (x := a_I Mk 96 i.toNatClampNeg) (congrArg Int32.toInt e5) (by rw [cc]; rfl)) ?_
      refine nv_cut hct nvV 99 59 6 (S' := (d + 2, [], 99, 59, [(3, .inl i), (0, .inr (.inr (some 95))), (1, .inr (.inr (some 300))), (2, .inl k)], [.inl (-(a_I Mk (nv_s (tauC c) 300) 1)), .inl i, .inr (.inr (some 99))], Mk)) hA rfl ?_
      refine nv_ast hct hA rfl (show nvV.1 99 = 15 + 1 from rfl) (show nvV.2.1 99 = 30 + 1 from rfl) (inb_p hi (by omega)) ?_
      refine nv_cut hct nvV 99 70 9 (S' := (d + 2, [], 99, 70, [(3, .inl i), (0, .inr (.inr (some 95))), (1, .inr (.inr (some 300))), (2, .inl k)], [.inl i, .inr (.inr (some 96)), .inl i, .inr (.inr (some 100))], (s_I Mk 99 i.toNatClampNeg (-(a_I Mk (nv_s (tauC c) 300) 1))))) (nv_As hA) rfl ?_
      refine nv_ald hct (nv_As hA) rfl (show nvV.1 96 = 17 + 1 from rfl) (show nvV.2.1 96 = 30 + 1 from rfl) (inb_p hi (by omega)) ?_
      refine nv_if hct true rfl (zcT1 (x := a_I Mk 96 i.toNatClampNeg) (congrArg Int32.toInt e5) (by rw [cc]; rfl)) ?_
      refine nv_cut hct nvV 99 87 5 (S' := (d + 2, [], 99, 87, [(3, .inl i), (0, .inr (.inr (some 95))), (1, .inr (.inr (some 300))), (2, .inl k)], [.inl (a_I (s_I Mk 99 i.toNatClampNeg (-(a_I Mk (nv_s (tauC c) 300) 1))) (nv_s (tauC c) 300) 1), .inl i, .inr (.inr (some 100))], (s_I Mk 99 i.toNatClampNeg (-(a_I Mk (nv_s (tauC c) 300) 1))))) (nv_As hA) rfl ?_
      refine nv_ast hct (nv_As hA) rfl (show nvV.1 100 = 15 + 1 from rfl) (show nvV.2.1 100 = 30 + 1 from rfl) (inb_p hi (by omega)) ?_
      refine nv_cut hct nvV 99 25 5 (S' := (d + 2, [], 99, 25, [(3, .inl (i + 1)), (0, .inr (.inr (some 95))), (1, .inr (.inr (some 300))), (2, .inl k)], [], (s_I (s_I Mk 99 i.toNatClampNeg (-(a_I Mk (nv_s (tauC c) 300) 1))) 100 i.toNatClampNeg (a_I (s_I Mk 99 i.toNatClampNeg (-(a_I Mk (nv_s (tauC c) 300) 1))) (nv_s (tauC c) 300) 1)))) (nv_As (nv_As hA)) rfl ?_
      refine fin _ _ ?_ ?_
      · rw [if_pos cc, nv300, h1]
      · rw [if_pos cc, nv300, aI_nk (fun q => hc2 q.1), h1]
    · skip
      have c9 : (a_I M 96 j).toInt ≠ 0 := fun e => cc (Int32.toInt_inj.mp e)
      refine nv_if hct false rfl (zcF1 (x := a_I Mk 96 i.toNatClampNeg) (congrArg Int32.toInt e5) c9) ?_
      refine nv_cut hct nvV 99 50 6 (S' := (d + 2, [], 99, 50, [(3, .inl i), (0, .inr (.inr (some 95))), (1, .inr (.inr (some 300))), (2, .inl k)], [.inl i, .inr (.inr (some 97)), .inl i, .inr (.inr (some 99))], Mk)) hA rfl ?_
      refine nv_ald hct hA rfl (show nvV.1 97 = 15 + 1 from rfl) (show nvV.2.1 97 = 30 + 1 from rfl) (inb_p hi (by omega)) ?_
      refine nv_cut hct nvV 99 59 4 (S' := (d + 2, [], 99, 59, [(3, .inl i), (0, .inr (.inr (some 95))), (1, .inr (.inr (some 300))), (2, .inl k)], [.inl (a_I Mk 97 i.toNatClampNeg), .inl i, .inr (.inr (some 99))], Mk)) hA rfl ?_
      refine nv_ast hct hA rfl (show nvV.1 99 = 15 + 1 from rfl) (show nvV.2.1 99 = 30 + 1 from rfl) (inb_p hi (by omega)) ?_
      refine nv_cut hct nvV 99 70 9 (S' := (d + 2, [], 99, 70, [(3, .inl i), (0, .inr (.inr (some 95))), (1, .inr (.inr (some 300))), (2, .inl k)], [.inl i, .inr (.inr (some 96)), .inl i, .inr (.inr (some 100))], (s_I Mk 99 i.toNatClampNeg (a_I Mk 97 i.toNatClampNeg)))) (nv_As hA) rfl ?_
      refine nv_ald hct (nv_As hA) rfl (show nvV.1 96 = 17 + 1 from rfl) (show nvV.2.1 96 = 30 + 1 from rfl) (inb_p hi (by omega)) ?_
      refine nv_if hct false rfl (zcF1 (x := a_I Mk 96 i.toNatClampNeg) (congrArg Int32.toInt e5) c9) ?_
      refine nv_cut hct nvV 99 79 6 (S' := (d + 2, [], 99, 79, [(3, .inl i), (0, .inr (.inr (some 95))), (1, .inr (.inr (some 300))), (2, .inl k)], [.inl i, .inr (.inr (some 98)), .inl i, .inr (.inr (some 100))], (s_I Mk 99 i.toNatClampNeg (a_I Mk 97 i.toNatClampNeg)))) (nv_As hA) rfl ?_
      refine nv_ald hct (nv_As hA) rfl (show nvV.1 98 = 15 + 1 from rfl) (show nvV.2.1 98 = 30 + 1 from rfl) (inb_p hi (by omega)) ?_
      refine nv_cut hct nvV 99 87 4 (S' := (d + 2, [], 99, 87, [(3, .inl i), (0, .inr (.inr (some 95))), (1, .inr (.inr (some 300))), (2, .inl k)], [.inl (a_I Mk 98 i.toNatClampNeg), .inl i, .inr (.inr (some 100))], (s_I Mk 99 i.toNatClampNeg (a_I Mk 97 i.toNatClampNeg)))) (nv_As hA) rfl ?_
      refine nv_ast hct (nv_As hA) rfl (show nvV.1 100 = 15 + 1 from rfl) (show nvV.2.1 100 = 30 + 1 from rfl) (inb_p hi (by omega)) ?_
      refine nv_cut hct nvV 99 25 5 (S' := (d + 2, [], 99, 25, [(3, .inl (i + 1)), (0, .inr (.inr (some 95))), (1, .inr (.inr (some 300))), (2, .inl k)], [], (s_I (s_I Mk 99 i.toNatClampNeg (a_I Mk 97 i.toNatClampNeg)) 100 i.toNatClampNeg (a_I Mk 98 i.toNatClampNeg)))) (nv_As (nv_As hA)) rfl ?_
      refine fin _ _ ?_ ?_
      · rw [if_neg cc, e1]
      · rw [if_neg cc, e2]
def fnr (a k : Nat) : Bool := fcu a k || (Nat.beq a 95 && Nat.beq k 5)
set_option maxHeartbeats 4000000 in
theorem cf_narrow {cd : Nat → Nat → Option aI} {z : Bool} (hz : ∀ m p i, cd0 z m p = some i → cd m p = some i) {c : Nat} (hc1 : c ≠ 95) (hc2 : c ≠ 99) (hc3 : c ≠ 100) {n : Nat} {w k : Int32} {M : aM} (hA : nv_A nvV (tauC c) M) (hn : (a_I M c 0).toInt = (n : Int)) (hn2 : 2 ≤ n) (hn3 : n ≤ 30) (hw : a_I M c 1 = w) (hk : 0 ≤ k.toInt ∧ k.toInt ≤ 99) (h6 : isB (a_I M 95 6) = true) (hB : BD n (sc0 M 30 w)) {d : Nat} : wpS cd (d + 2, [], 99, 0, nv_l (tauC c) (la 0 [.inr (.inr (some 95)), .inr (.inr (some 300)), .inl k]), [], M) (fun r M' => ∃ y, r = some (.inl y) ∧ ((a_I M 95 5 = k ∧ M' = M ∧ y = a_I M 95 6) ∨ (a_I M 95 5 ≠ k ∧ eqE fnr M M' ∧ a_I M' 95 5 = k ∧ (∀ F', 60000 ≤ F' → spn k n F' (sc0 M 30 w) = spn k n 60000 (sc0 M 30 w)) ∧ (((spn k n 60000 (sc0 M 30 w)).2 = true ∧ y = 1 ∧ a_I M' 95 6 = 1 ∧ SpC9 M' (spn k n 60000 (sc0 M 30 w)).1) ∨ ((spn k n 60000 (sc0 M 30 w)).2 = false ∧ y = 0 ∧ a_I M' 95 6 = 0))))) := by
  show wpS cd (nv_S (tauC c) (d + 2, [], 99, 0, la 0 [.inr (.inr (some 95)), .inr (.inr (some 300)), .inl k], [], M)) _
  have hct := hc_of hz
  refine nv_cut hct nvV 99 5 6 (S' := (d + 2, [], 99, 5, [(0, .inr (.inr (some 95))), (1, .inr (.inr (some 300))), (2, .inl k)], [.inl k, .inl (a_I M 95 5)], M)) hA rfl ?_
  by_cases c5 : a_I M 95 5 = k
  · skip
    refine nv_ifc hct false rfl (ccF5 rfl rfl (by rw [c5])) ?_
    refine nv_cut hct nvV 99 12 5 (S' := (d + 2, [], 99, 12, [(0, .inr (.inr (some 95))), (1, .inr (.inr (some 300))), (2, .inl k)], [.inl (a_I M 95 6)], M)) hA rfl ?_
    exact nv_iret hct rfl (by rw [h6]; rfl) ⟨_, rfl, Or.inl ⟨c5, rfl, rfl⟩⟩
  · skip
    refine nv_ifc hct true rfl (ccT5 rfl rfl (fun e => c5 (Int32.toInt_inj.mp e))) ?_
    refine nv_cut hct nvV 99 25 11 (S' := (d + 2, [], 99, 25, [(3, .inl (0 : Int32)), (0, .inr (.inr (some 95))), (1, .inr (.inr (some 300))), (2, .inl k)], [], (s_I (s_I M 95 5 k) 95 6 (1 : Int32)))) hA rfl ?_
    have hm := (mu_2 hB).2
    have hs0 : ∀ j, sc0 (s_I (s_I M 95 5 k) 95 6 (1 : Int32)) j w = sc0 M j w := fun j => rfl
    have hE0 : eqE fnr M (s_I (s_I M 95 5 k) 95 6 (1 : Int32)) := eqE_s (eqE_s eqE_rf rfl) rfl
    have hc0 : ∀ j, a_I (s_I (s_I M 95 5 k) 95 6 (1 : Int32)) c j = a_I M c j := fun j => by rw [aI_nk (fun q => hc1 q.1), aI_nk (fun q => hc1 q.1)]
    refine cf_in hz hc1 hc2 hc3 (M := (s_I (s_I M 95 5 k) 95 6 (1 : Int32))) 30 (j := 0) (by omega) rfl hA ((hc0 1).trans hw) eqE_rf ⟨fun j => rfl, fun j => rfl⟩ (fun M1 i' E1 S1 => ?_)
    rw [hs0] at S1
    have A1 := eqE_A E1 (show nv_A nvV (tauC c) (s_I (s_I M 95 5 k) 95 6 (1 : Int32)) from hA)
    refine nv_cut hct nvV 99 101 8 (S' := (d + 2, [], 99, 101, [(3, .inl (0 : Int32)), (0, .inr (.inr (some 95))), (1, .inr (.inr (some 300))), (2, .inl k)], [], (s_I M1 95 7 (1 : Int32)))) A1 rfl ?_
    have hci : ∀ j, fci c j = false := fun j => by unfold fci; rw [nbF hc2, nbF hc3]; rfl
    refine wpS_mono (cf_rnd hz hc1 hc2 hc3 (nI := a_I M c 0) hn hn2 hn3 hk 60000 (r9 := 0) (a := sc0 M 30 w) (by omega) (by omega) rfl (nv_As A1) (by rw [aI_nk (fun q => hc1 q.1), E1.2.2 c 0 (hci 0)]; exact hc0 0) ⟨fun j => by rw [aI_nk (by omega)]; exact S1.1 j, fun j => by rw [aI_nk (by omega)]; exact S1.2 j⟩ hB (by rw [aI_nk (by omega), E1.2.2 95 6 rfl]; exact aI_at) aI_at (Or.inl rfl)) (fun r M2 h => ?_)
    obtain ⟨y, y1, y2, y3⟩ := h
    refine ⟨y, y1, Or.inr ⟨c5, ?_, ?_, spn_cv2 hn2 hB (by omega), y3⟩⟩
    · refine eqE_tr hE0 (eqE_tr (eqE_up E1 (fun a j h => ?_)) (eqE_up (eqE_tr (eqE_s (f := fcu) eqE_rf rfl) y2) (fun a j h => (Bool.or_eq_false_iff.mp h).1)))
      have h := (Bool.or_eq_false_iff.mp h).1
      exact (Bool.or_eq_false_iff.mp h).1
    · rw [y2.2.2 95 5 rfl, aI_nk (by omega), E1.2.2 95 5 rfl, aI_nk (by omega)]
      exact aI_at

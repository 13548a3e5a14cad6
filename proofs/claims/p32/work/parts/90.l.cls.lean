/-! shop of the class, whole: printed by wip/gen/clspc.py -/
/-- the table with the two shops: current c, told t -/
def nvD (c t : Nat) : nv_T := ((fun a => bif Nat.beq a 4 || Nat.beq a 101 then 9 else nvB_K a), nvB_N, fun a k => bif Nat.beq a 0 && Nat.beq k 7 then some (some c) else bif Nat.beq a 1 && Nat.beq k 1 then some (some t) else nvB_P a k)
theorem nvD_A {c t : Nat} {τ : Nat → Nat} {M : aM} (hc : c < 137) (ht : t < 137) (hB : nv_A nvB τ M) (k4 : 4 < a_n M ∧ a_K M 4 = 8) (k1 : 101 < a_n M ∧ a_K M 101 = 8) (p7 : a_P M 0 7 = some c) (p1 : a_P M 1 1 = some t) : nv_A (nvD c t) τ M := by
  refine ⟨fun a x h => ?_, hB.2.1, fun a k r h => ?_⟩
  · have h : (bif Nat.beq a 4 || Nat.beq a 101 then 9 else nvB_K a) = x + 1 := h
    cases h4 : Nat.beq a 4 with
    | true =>
      rw [h4] at h
      have hx : x = 8 := by have h : 9 = x + 1 := h; omega
      rw [nbT h4, nv_lo (by decide), hx]
      exact k4
    | false =>
      cases h1 : Nat.beq a 101 with
      | true =>
        rw [h4, h1] at h
        have hx : x = 8 := by have h : 9 = x + 1 := h; omega
        rw [nbT h1, nv_lo (by decide), hx]
        exact k1
      | false =>
        rw [h4, h1] at h
        exact hB.1 a x h
  · have h : (bif Nat.beq a 0 && Nat.beq k 7 then some (some c) else bif Nat.beq a 1 && Nat.beq k 1 then some (some t) else nvB_P a k) = some r := h
    cases h7 : (Nat.beq a 0 && Nat.beq k 7) with
    | true =>
      rw [h7] at h
      cases h
      obtain ⟨b1, b2⟩ := (Bool.and_eq_true _ _).mp h7
      rw [nbT b1, nbT b2, nv_lo (by decide), p7]
      show _ = some (nv_s τ c)
      rw [nv_lo hc]
    | false =>
      rw [h7] at h
      cases h1 : (Nat.beq a 1 && Nat.beq k 1) with
      | true =>
        rw [h1] at h
        cases h
        obtain ⟨b1, b2⟩ := (Bool.and_eq_true _ _).mp h1
        rw [nbT b1, nbT b2, nv_lo (by decide), p1]
        show _ = some (nv_s τ t)
        rw [nv_lo ht]
      | false =>
        rw [h1] at h
        exact hB.2.2 a k r h
theorem nvD_B {c t : Nat} {τ : Nat → Nat} {M : aM} (h : nv_A (nvD c t) τ M) : nv_A nvB τ M := by
  refine ⟨fun a x e => ?_, h.2.1, fun a k r e => ?_⟩
  · refine h.1 a x ?_
    have e : nvB_K a = x + 1 := e
    show (bif Nat.beq a 4 || Nat.beq a 101 then 9 else nvB_K a) = x + 1
    cases h4 : Nat.beq a 4 with
    | true => rw [nbT h4] at e; cases e
    | false =>
      cases h1 : Nat.beq a 101 with
      | true => rw [nbT h1] at e; cases e
      | false => exact e
  · refine h.2.2 a k r ?_
    have e : nvB_P a k = some r := e
    show (bif Nat.beq a 0 && Nat.beq k 7 then some (some c) else bif Nat.beq a 1 && Nat.beq k 1 then some (some t) else nvB_P a k) = some r
    cases h7 : (Nat.beq a 0 && Nat.beq k 7) with
    | true =>
      obtain ⟨b1, b2⟩ := (Bool.and_eq_true _ _).mp h7
      rw [nbT b1, nbT b2] at e; cases e
    | false =>
      cases h1 : (Nat.beq a 1 && Nat.beq k 1) with
      | true =>
        obtain ⟨b1, b2⟩ := (Bool.and_eq_true _ _).mp h1
        rw [nbT b1, nbT b2] at e; cases e
      | false => exact e
theorem nvB_sP {τ : Nat → Nat} {M : aM} {a k : Nat} {v : Option Nat} (ha : nvB_P a k = none) (h9 : a < 137) (h : nv_A nvB τ M) : nv_A nvB τ (s_P M a k v) := by
  refine ⟨h.1, h.2.1, fun b j r e => ?_⟩
  have e : nvB_P b j = some r := e
  obtain ⟨hb, _⟩ := nvB_ltP e
  rw [aP_sP, if_neg (fun q => by rw [nv_lo hb] at q; rw [q.1, q.2, ha] at e; cases e)]
  exact h.2.2 b j r e
/-- the walls told no more -/
def fI (a _k : Nat) : Bool := Nat.beq a 96
set_option maxHeartbeats 4000000 in
theorem c_wdL {cd : Nat → Nat → Option aI} {z : Bool} (hz : ∀ m p i, cd0 z m p = some i → cd m p = some i) {c t : Nat} {τ : Nat → Nat} {Mz : aM} {d : Nat} : ∀ (f : Nat) {j : Nat} {i : Int32} {M : aM}, 30 - j = f → j ≤ 30 → i.toInt = (j : Int) → nv_A (nvD c t) τ M → eqE fI Mz M → (∀ k, k < j → a_I M 96 k = 0) → wpS cd (nv_S τ (d, [], 96, 2, [(1, .inl i), (0, .inr (.inr (some 95)))], [], M)) (fun r M' => r = none ∧ ∃ N, eqE fI Mz N ∧ (∀ k, k < 30 → a_I N 96 k = 0) ∧ M' = s_I N 95 5 (-1)) := by
  have hct := hc_of hz
  intro f
  induction f with
  | zero =>
    intro j i M h1 h2 hi hA Q h0
    refine nv_cut hct (nvD c t) 96 5 5 (S' := (d, [], 96, 5, [(1, .inl i), (0, .inr (.inr (some 95)))], [.inl (30 : Int32), .inl i], M)) hA rfl ?_
    refine nv_ifc hct true rfl (ccT4 hi (show ((30 : Int32)).toInt = 30 from rfl) (by omega)) ?_
    refine nv_cut hct (nvD c t) 96 26 6 (S' := (d, [], 96, 26, [(1, .inl i), (0, .inr (.inr (some 95)))], [], (s_I M 95 5 (-1 : Int32)))) hA rfl ?_
    exact nv_vret hct rfl ⟨rfl, _, Q, fun k hk => h0 k (by omega), rfl⟩
  | succ f ih =>
    intro j i M h1 h2 hi hA Q h0
    refine nv_cut hct (nvD c t) 96 5 5 (S' := (d, [], 96, 5, [(1, .inl i), (0, .inr (.inr (some 95)))], [.inl (30 : Int32), .inl i], M)) hA rfl ?_
    refine nv_ifc hct false rfl (ccF4 hi (show ((30 : Int32)).toInt = 30 from rfl) (by omega)) ?_
    refine nv_cut hct (nvD c t) 96 14 7 (S' := (d, [], 96, 14, [(1, .inl i), (0, .inr (.inr (some 95)))], [.inl (0 : Int32), .inl i, .inr (.inr (some 96))], M)) hA rfl ?_
    refine nv_ast hct hA rfl (show (nvD c t).1 96 = 17 + 1 from rfl) (show (nvD c t).2.1 96 = 30 + 1 from rfl) (inb_p hi (by omega)) ?_
    rw [tnc hi]
    refine nv_cut hct (nvD c t) 96 2 5 (S' := (d, [], 96, 2, [(1, .inl (i + 1)), (0, .inr (.inr (some 95)))], [], (s_I M 96 j (astf 2 (0 : Int32))))) (nv_As hA) rfl ?_
    refine ih (j := j + 1) (by omega) (by omega) (by rw [add_p hi (by omega) (by omega)]; omega) (nv_As hA) (eqE_s Q rfl) (fun k hk => ?_)
    rw [aI_sI]
    by_cases e : k = j
    · rw [if_pos ⟨rfl, e⟩]; rfl
    · rw [if_neg (fun q => e q.2)]; exact h0 k (by omega)
set_option maxHeartbeats 4000000 in
theorem c_wd {cd : Nat → Nat → Option aI} {z : Bool} (hz : ∀ m p i, cd0 z m p = some i → cd m p = some i) {c t : Nat} {τ : Nat → Nat} {M : aM} (hA : nv_A (nvD c t) τ M) {d : Nat} : wpS cd (d, [], 96, 0, nv_l τ (la 0 [.inr (.inr (some 95))]), [], M) (fun r M' => r = none ∧ ∃ N, eqE fI M N ∧ (∀ k, k < 30 → a_I N 96 k = 0) ∧ M' = s_I N 95 5 (-1)) := by
  show wpS cd (nv_S τ (d, [], 96, 0, la 0 [.inr (.inr (some 95))], [], M)) _
  have hct := hc_of hz
  refine nv_cut hct (nvD c t) 96 2 5 (S' := (d, [], 96, 2, [(1, .inl (0 : Int32)), (0, .inr (.inr (some 95)))], [], M)) hA rfl ?_
  exact c_wdL hz _ (j := 0) rfl (by omega) rfl hA eqE_rf (fun k hk => absurd hk (Nat.not_lt_zero k))
set_option maxHeartbeats 8000000 in
theorem c_shop4 {cd : Nat → Nat → Option aI} {z : Bool} (hz : ∀ m p i, cd0 z m p = some i → cd m p = some i) {B : Nat → Int} {M : aM} (P : PrC 4 B M M) (hD : nv_A (nvD 101 4) (tauC 4) M) {k : Nat} (hk : (a_I M 2 1).toInt = (k : Int)) (hk7 : k ≤ 700) {n : Int32} {d : Nat} : wpS cd (d + 10, [], 105, 0, nv_l (tauC 4) (la 0 [.inr (.inr (some 0)), .inl n]), [], M) (fun r M' => ∃ y, r = some (.inl y) ∧ (((n.toInt < 0 ∨ (k : Int) < n.toInt) ∧ y = -1 ∧ M' = s_I M 0 9 2) ∨ ∃ (lim : Nat) (M1 : aM) (v : Int32), (n.toInt = (lim : Int) ∧ lim ≤ k ∧ v = a_I M1 1 13) ∧ (EnC 4 B lim M1 ∧ StC B lim M1 (shM B lim) ∧ Ty 4 M1 ∧ eqE (fL 4) M M1) ∧ ((∃ f, shM B lim = .inr f ∧ y = -1 ∧ M' = (s_I (s_I (s_I (s_I M1 0 10 v) 0 11 (a_I M1 1 14)) 2 1 (0 : Int32)) 0 9 (4 : Int32))) ∨ ∃ p N, shM B lim = .inl p ∧ KC 4 B lim M1 (shL B lim) ∧ eqE fI (s_I (s_I (s_I (s_I (s_I (s_I (s_I (s_I (s_I (s_I (s_I (s_I (s_I (s_I (s_I (s_I (s_I (s_I (s_P (s_P (s_I (s_I (s_I M1 0 10 v) 0 11 (a_I M1 1 14)) 2 1 (0 : Int32)) 1 1 (some 101)) 0 7 (some 4)) 0 8 (1 : Int32)) 20 0 (0 : Int32)) 20 1 (0 : Int32)) 20 2 (0 : Int32)) 20 3 (0 : Int32)) 20 4 (0 : Int32)) 20 5 (0 : Int32)) 20 6 (0 : Int32)) 20 7 (0 : Int32)) 20 8 (0 : Int32)) 20 9 (0 : Int32)) 19 5 (0 : Int32)) 19 6 (0 : Int32)) 32 4 (0 : Int32)) 32 3 (0 : Int32)) 52 4 (0 : Int32)) 52 6 (0 : Int32)) 60 4 (0 : Int32)) N ∧ (∀ j, j < 30 → a_I N 96 j = 0) ∧ y = (a_I N 4 10) ∧ M' = (s_I (s_I N 95 5 (-1 : Int32)) 0 9 (0 : Int32))))) := by
  show wpS cd (nv_S (tauC 4) (d + 10, [], 105, 0, la 0 [.inr (.inr (some 0)), .inl n], [], M)) _
  have hct := hc_of hz
  refine nv_cut hct (nvD 101 4) 105 1 4 (S' := (d + 10, [], 105, 1, [(0, .inr (.inr (some 0))), (1, .inl n)], [.inl n], M)) hD rfl ?_
  by_cases c1 : n.toInt < 0
  · skip
    refine nv_if hct true rfl (zcT0 rfl c1) ?_
    refine nv_cut hct (nvD 101 4) 105 23 11 (S' := (d + 10, [], 105, 23, [(0, .inr (.inr (some 0))), (1, .inl n)], [.inl (-1 : Int32)], (s_I M 0 9 (2 : Int32)))) hD rfl ?_
    exact nv_iret hct rfl rfl ⟨_, rfl, Or.inl ⟨Or.inl c1, rfl, rfl⟩⟩
  · skip
    refine nv_if hct false rfl (zcF0 rfl (by omega)) ?_
    refine nv_cut hct (nvD 101 4) 105 15 8 (S' := (d + 10, [], 105, 15, [(0, .inr (.inr (some 0))), (1, .inl n)], [.inl (a_I M 2 1), .inl n], M)) hD rfl ?_
    by_cases c2 : (k : Int) < n.toInt
    · skip
      refine nv_ifc hct false rfl (ccF2 rfl hk c2) ?_
      refine nv_cut hct (nvD 101 4) 105 23 11 (S' := (d + 10, [], 105, 23, [(0, .inr (.inr (some 0))), (1, .inl n)], [.inl (-1 : Int32)], (s_I M 0 9 (2 : Int32)))) hD rfl ?_
      exact nv_iret hct rfl rfl ⟨_, rfl, Or.inl ⟨Or.inr c2, rfl, rfl⟩⟩
    · skip
      refine nv_ifc hct true rfl (ccT2 rfl hk (by omega)) ?_
      obtain ⟨lim, hlim⟩ : ∃ m : Nat, n.toInt = (m : Int) := ⟨n.toInt.toNat, by omega⟩
      refine nv_cut hct (nvD 101 4) 51 0 8 (S' := (d + 9, [(105, 33, [(0, .inr (.inr (some 0))), (1, .inl n)], [.inr (.inr (some 0))])], 51, 0, la 0 [.inr (.inr (some 1)), .inl n], [], M)) hD rfl ?_
      refine nv_calli (c_read hz P hlim (by omega)) (fun v M1 ⟨e1, ⟨E1, S1, T1, Q1⟩, K1⟩ => ?_)
      have D1 := eqE_A Q1 hD
      have S1 : StC B lim M1 (shM B lim) := S1
      refine nv_cut hct (nvD 101 4) 105 62 16 (S' := (d + 10, [], 105, 62, [(0, .inr (.inr (some 0))), (1, .inl n)], [.inl v], (s_I (s_I (s_I M1 0 10 v) 0 11 (a_I M1 1 14)) 2 1 (0 : Int32)))) D1 rfl ?_
      cases hm : shM B lim with
      | inr f =>
        have S2 := S1
        rw [hm] at S2
        obtain ⟨_, _, h13, _, h1f⟩ := S2
        refine nv_if hct false rfl (zcF1 (show v.toInt = (f.1 : Int) by rw [e1]; exact h13) (by omega)) ?_
        refine nv_cut hct (nvD 101 4) 105 70 11 (S' := (d + 10, [], 105, 70, [(0, .inr (.inr (some 0))), (1, .inl n)], [.inl (-1 : Int32)], (s_I (s_I (s_I (s_I M1 0 10 v) 0 11 (a_I M1 1 14)) 2 1 (0 : Int32)) 0 9 (4 : Int32)))) (nv_As (nv_As (nv_As D1))) rfl ?_
        exact nv_iret hct rfl rfl ⟨_, rfl, Or.inr ⟨lim, M1, v, ⟨hlim, by omega, e1⟩, ⟨E1, S1, T1, Q1⟩, Or.inl ⟨f, hm, rfl, rfl⟩⟩⟩
      | inl p =>
        have S2 := S1
        rw [hm] at S2
        have h13 := (Sc_p S2).2
        refine nv_if hct true rfl (zcT1 (show v.toInt = 0 by rw [e1, h13]; rfl) rfl) ?_
        refine nv_cut hct (nvD 101 4) 52 7 14 (S' := (d + 9, [(105, 83, [(0, .inr (.inr (some 0))), (1, .inl n)], [.inr (.inr (some 0))])], 52, 7, [(2, .inr (.inr (some 4))), (0, .inr (.inr (some 1))), (1, .inr (.inr (some 101)))], [.inr (.inr (some 101)), .inr (.inr (some 1))], (s_I (s_I (s_I M1 0 10 v) 0 11 (a_I M1 1 14)) 2 1 (0 : Int32)))) (nv_As (nv_As (nv_As D1))) rfl ?_
        have k4 : 4 < a_n M1 ∧ a_K M1 4 = 8 := D1.1 4 8 rfl
        have k1 : 101 < a_n M1 ∧ a_K M1 101 = 8 := D1.1 101 8 rfl
        have p7 : a_P M1 0 7 = some 101 := D1.2.2 0 7 (some 101) rfl
        have B1 := nvD_B D1
        refine nv_z hz (pc' := 10) (lo' := [(2, .inr (.inr (some 4))), (0, .inr (.inr (some 1))), (1, .inr (.inr (some 101)))]) (st' := []) (M' := (s_P (s_I (s_I (s_I M1 0 10 v) 0 11 (a_I M1 1 14)) 2 1 (0 : Int32)) 1 1 (some 101))) rfl (by
          have hk9 := nv_kd (M := (s_I (s_I (s_I M1 0 10 v) 0 11 (a_I M1 1 14)) 2 1 (0 : Int32))) (ci := 6) (a := 1) (nv_As (nv_As (nv_As D1))) rfl
          show (bif Nat.blt (nv_s (tauC 4) 1) (a_n (s_I (s_I (s_I M1 0 10 v) 0 11 (a_I M1 1 14)) 2 1 (0 : Int32))) && Nat.beq (a_K (s_I (s_I (s_I M1 0 10 v) 0 11 (a_I M1 1 14)) 2 1 (0 : Int32)) (nv_s (tauC 4) 1)) 6 then _ else none) = _
          rw [hk9]
          rfl) ?_
        have B3 : nv_A nvB (tauC 4) (s_P (s_I (s_I (s_I M1 0 10 v) 0 11 (a_I M1 1 14)) 2 1 (0 : Int32)) 1 1 (some 101)) := nvB_sP rfl (by decide) (nv_As (nv_As (nv_As B1)))
        have D3 : nv_A (nvD 101 101) (tauC 4) (s_P (s_I (s_I (s_I M1 0 10 v) 0 11 (a_I M1 1 14)) 2 1 (0 : Int32)) 1 1 (some 101)) := nvD_A (by decide) (by decide) B3 k4 k1 p7 rfl
        refine nv_cut hct (nvD 101 101) 105 83 5 (S' := (d + 10, [], 105, 83, [(0, .inr (.inr (some 0))), (1, .inl n)], [.inr (.inr (some 4)), .inr (.inr (some 0))], (s_P (s_I (s_I (s_I M1 0 10 v) 0 11 (a_I M1 1 14)) 2 1 (0 : Int32)) 1 1 (some 101)))) D3 rfl ?_
        refine nv_z hz (pc' := 86) (lo' := [(0, .inr (.inr (some 0))), (1, .inl n)]) (st' := []) (M' := (s_P (s_P (s_I (s_I (s_I M1 0 10 v) 0 11 (a_I M1 1 14)) 2 1 (0 : Int32)) 1 1 (some 101)) 0 7 (some 4))) rfl (by
          have hk9 := nv_kd (M := (s_P (s_I (s_I (s_I M1 0 10 v) 0 11 (a_I M1 1 14)) 2 1 (0 : Int32)) 1 1 (some 101))) (ci := 11) (a := 0) D3 rfl
          show (bif Nat.blt (nv_s (tauC 4) 0) (a_n (s_P (s_I (s_I (s_I M1 0 10 v) 0 11 (a_I M1 1 14)) 2 1 (0 : Int32)) 1 1 (some 101))) && Nat.beq (a_K (s_P (s_I (s_I (s_I M1 0 10 v) 0 11 (a_I M1 1 14)) 2 1 (0 : Int32)) 1 1 (some 101)) (nv_s (tauC 4) 0)) 11 then _ else none) = _
          rw [hk9]
          rfl) ?_
        have B4 : nv_A nvB (tauC 4) (s_P (s_P (s_I (s_I (s_I M1 0 10 v) 0 11 (a_I M1 1 14)) 2 1 (0 : Int32)) 1 1 (some 101)) 0 7 (some 4)) := nvB_sP rfl (by decide) B3
        have D4 : nv_A (nvD 4 101) (tauC 4) (s_P (s_P (s_I (s_I (s_I M1 0 10 v) 0 11 (a_I M1 1 14)) 2 1 (0 : Int32)) 1 1 (some 101)) 0 7 (some 4)) := nvD_A (by decide) (by decide) B4 k4 k1 rfl rfl
        refine nv_cut hct (nvD 4 101) 96 0 83 (S' := (d + 9, [(105, 127, [(0, .inr (.inr (some 0))), (1, .inl n)], [])], 96, 0, la 0 [.inr (.inr (some 95))], [], (s_I (s_I (s_I (s_I (s_I (s_I (s_I (s_I (s_I (s_I (s_I (s_I (s_I (s_I (s_I (s_I (s_I (s_I (s_P (s_P (s_I (s_I (s_I M1 0 10 v) 0 11 (a_I M1 1 14)) 2 1 (0 : Int32)) 1 1 (some 101)) 0 7 (some 4)) 0 8 (1 : Int32)) 20 0 (0 : Int32)) 20 1 (0 : Int32)) 20 2 (0 : Int32)) 20 3 (0 : Int32)) 20 4 (0 : Int32)) 20 5 (0 : Int32)) 20 6 (0 : Int32)) 20 7 (0 : Int32)) 20 8 (0 : Int32)) 20 9 (0 : Int32)) 19 5 (0 : Int32)) 19 6 (0 : Int32)) 32 4 (0 : Int32)) 32 3 (0 : Int32)) 52 4 (0 : Int32)) 52 6 (0 : Int32)) 60 4 (0 : Int32)))) D4 rfl ?_
        refine nv_callv (c_wd hz (nv_As (nv_As (nv_As (nv_As (nv_As (nv_As (nv_As (nv_As (nv_As (nv_As (nv_As (nv_As (nv_As (nv_As (nv_As (nv_As (nv_As (nv_As D4))))))))))))))))))) (fun M5 ⟨N, n1, n2, n3⟩ => ?_)
        subst n3
        have D5 := eqE_A n1 (nv_As (nv_As (nv_As (nv_As (nv_As (nv_As (nv_As (nv_As (nv_As (nv_As (nv_As (nv_As (nv_As (nv_As (nv_As (nv_As (nv_As (nv_As D4))))))))))))))))))
        refine nv_cut hct (nvD 4 101) 105 138 13 (S' := (d + 10, [], 105, 138, [(0, .inr (.inr (some 0))), (1, .inl n)], [.inl (a_I N 4 10)], (s_I (s_I N 95 5 (-1 : Int32)) 0 9 (0 : Int32)))) (nv_As D5) rfl ?_
        exact nv_iret hct rfl rfl ⟨_, rfl, Or.inr ⟨lim, M1, v, ⟨hlim, by omega, e1⟩, ⟨E1, S1, T1, Q1⟩, Or.inr ⟨p, N, hm, K1 p hm, n1, n2, rfl, rfl⟩⟩⟩
set_option maxHeartbeats 8000000 in
theorem c_shop101 {cd : Nat → Nat → Option aI} {z : Bool} (hz : ∀ m p i, cd0 z m p = some i → cd m p = some i) {B : Nat → Int} {M : aM} (P : PrC 101 B M M) (hD : nv_A (nvD 4 101) (tauC 101) M) {k : Nat} (hk : (a_I M 2 1).toInt = (k : Int)) (hk7 : k ≤ 700) {n : Int32} {d : Nat} : wpS cd (d + 10, [], 105, 0, nv_l (tauC 101) (la 0 [.inr (.inr (some 0)), .inl n]), [], M) (fun r M' => ∃ y, r = some (.inl y) ∧ (((n.toInt < 0 ∨ (k : Int) < n.toInt) ∧ y = -1 ∧ M' = s_I M 0 9 2) ∨ ∃ (lim : Nat) (M1 : aM) (v : Int32), (n.toInt = (lim : Int) ∧ lim ≤ k ∧ v = a_I M1 1 13) ∧ (EnC 101 B lim M1 ∧ StC B lim M1 (shM B lim) ∧ Ty 101 M1 ∧ eqE (fL 101) M M1) ∧ ((∃ f, shM B lim = .inr f ∧ y = -1 ∧ M' = (s_I (s_I (s_I (s_I M1 0 10 v) 0 11 (a_I M1 1 14)) 2 1 (0 : Int32)) 0 9 (4 : Int32))) ∨ ∃ p N, shM B lim = .inl p ∧ KC 101 B lim M1 (shL B lim) ∧ eqE fI (s_I (s_I (s_I (s_I (s_I (s_I (s_I (s_I (s_I (s_I (s_I (s_I (s_I (s_I (s_I (s_I (s_I (s_I (s_P (s_P (s_I (s_I (s_I M1 0 10 v) 0 11 (a_I M1 1 14)) 2 1 (0 : Int32)) 1 1 (some 4)) 0 7 (some 101)) 0 8 (1 : Int32)) 20 0 (0 : Int32)) 20 1 (0 : Int32)) 20 2 (0 : Int32)) 20 3 (0 : Int32)) 20 4 (0 : Int32)) 20 5 (0 : Int32)) 20 6 (0 : Int32)) 20 7 (0 : Int32)) 20 8 (0 : Int32)) 20 9 (0 : Int32)) 19 5 (0 : Int32)) 19 6 (0 : Int32)) 32 4 (0 : Int32)) 32 3 (0 : Int32)) 52 4 (0 : Int32)) 52 6 (0 : Int32)) 60 4 (0 : Int32)) N ∧ (∀ j, j < 30 → a_I N 96 j = 0) ∧ y = (a_I N 101 10) ∧ M' = (s_I (s_I N 95 5 (-1 : Int32)) 0 9 (0 : Int32))))) := by
  show wpS cd (nv_S (tauC 101) (d + 10, [], 105, 0, la 0 [.inr (.inr (some 0)), .inl n], [], M)) _
  have hct := hc_of hz
  refine nv_cut hct (nvD 4 101) 105 1 4 (S' := (d + 10, [], 105, 1, [(0, .inr (.inr (some 0))), (1, .inl n)], [.inl n], M)) hD rfl ?_
  by_cases c1 : n.toInt < 0
  · skip
    refine nv_if hct true rfl (zcT0 rfl c1) ?_
    refine nv_cut hct (nvD 4 101) 105 23 11 (S' := (d + 10, [], 105, 23, [(0, .inr (.inr (some 0))), (1, .inl n)], [.inl (-1 : Int32)], (s_I M 0 9 (2 : Int32)))) hD rfl ?_
    exact nv_iret hct rfl rfl ⟨_, rfl, Or.inl ⟨Or.inl c1, rfl, rfl⟩⟩
  · skip
    refine nv_if hct false rfl (zcF0 rfl (by omega)) ?_
    refine nv_cut hct (nvD 4 101) 105 15 8 (S' := (d + 10, [], 105, 15, [(0, .inr (.inr (some 0))), (1, .inl n)], [.inl (a_I M 2 1), .inl n], M)) hD rfl ?_
    by_cases c2 : (k : Int) < n.toInt
    · skip
      refine nv_ifc hct false rfl (ccF2 rfl hk c2) ?_
      refine nv_cut hct (nvD 4 101) 105 23 11 (S' := (d + 10, [], 105, 23, [(0, .inr (.inr (some 0))), (1, .inl n)], [.inl (-1 : Int32)], (s_I M 0 9 (2 : Int32)))) hD rfl ?_
      exact nv_iret hct rfl rfl ⟨_, rfl, Or.inl ⟨Or.inr c2, rfl, rfl⟩⟩
    · skip
      refine nv_ifc hct true rfl (ccT2 rfl hk (by omega)) ?_
      obtain ⟨lim, hlim⟩ : ∃ m : Nat, n.toInt = (m : Int) := ⟨n.toInt.toNat, by omega⟩
      refine nv_cut hct (nvD 4 101) 51 0 8 (S' := (d + 9, [(105, 33, [(0, .inr (.inr (some 0))), (1, .inl n)], [.inr (.inr (some 0))])], 51, 0, la 0 [.inr (.inr (some 1)), .inl n], [], M)) hD rfl ?_
      refine nv_calli (c_read hz P hlim (by omega)) (fun v M1 ⟨e1, ⟨E1, S1, T1, Q1⟩, K1⟩ => ?_)
      have D1 := eqE_A Q1 hD
      have S1 : StC B lim M1 (shM B lim) := S1
      refine nv_cut hct (nvD 4 101) 105 62 16 (S' := (d + 10, [], 105, 62, [(0, .inr (.inr (some 0))), (1, .inl n)], [.inl v], (s_I (s_I (s_I M1 0 10 v) 0 11 (a_I M1 1 14)) 2 1 (0 : Int32)))) D1 rfl ?_
      cases hm : shM B lim with
      | inr f =>
        have S2 := S1
        rw [hm] at S2
        obtain ⟨_, _, h13, _, h1f⟩ := S2
        refine nv_if hct false rfl (zcF1 (show v.toInt = (f.1 : Int) by rw [e1]; exact h13) (by omega)) ?_
        refine nv_cut hct (nvD 4 101) 105 70 11 (S' := (d + 10, [], 105, 70, [(0, .inr (.inr (some 0))), (1, .inl n)], [.inl (-1 : Int32)], (s_I (s_I (s_I (s_I M1 0 10 v) 0 11 (a_I M1 1 14)) 2 1 (0 : Int32)) 0 9 (4 : Int32)))) (nv_As (nv_As (nv_As D1))) rfl ?_
        exact nv_iret hct rfl rfl ⟨_, rfl, Or.inr ⟨lim, M1, v, ⟨hlim, by omega, e1⟩, ⟨E1, S1, T1, Q1⟩, Or.inl ⟨f, hm, rfl, rfl⟩⟩⟩
      | inl p =>
        have S2 := S1
        rw [hm] at S2
        have h13 := (Sc_p S2).2
        refine nv_if hct true rfl (zcT1 (show v.toInt = 0 by rw [e1, h13]; rfl) rfl) ?_
        refine nv_cut hct (nvD 4 101) 52 7 14 (S' := (d + 9, [(105, 83, [(0, .inr (.inr (some 0))), (1, .inl n)], [.inr (.inr (some 0))])], 52, 7, [(2, .inr (.inr (some 101))), (0, .inr (.inr (some 1))), (1, .inr (.inr (some 4)))], [.inr (.inr (some 4)), .inr (.inr (some 1))], (s_I (s_I (s_I M1 0 10 v) 0 11 (a_I M1 1 14)) 2 1 (0 : Int32)))) (nv_As (nv_As (nv_As D1))) rfl ?_
        have k4 : 4 < a_n M1 ∧ a_K M1 4 = 8 := D1.1 4 8 rfl
        have k1 : 101 < a_n M1 ∧ a_K M1 101 = 8 := D1.1 101 8 rfl
        have p7 : a_P M1 0 7 = some 4 := D1.2.2 0 7 (some 4) rfl
        have B1 := nvD_B D1
        refine nv_z hz (pc' := 10) (lo' := [(2, .inr (.inr (some 101))), (0, .inr (.inr (some 1))), (1, .inr (.inr (some 4)))]) (st' := []) (M' := (s_P (s_I (s_I (s_I M1 0 10 v) 0 11 (a_I M1 1 14)) 2 1 (0 : Int32)) 1 1 (some 4))) rfl (by
          have hk9 := nv_kd (M := (s_I (s_I (s_I M1 0 10 v) 0 11 (a_I M1 1 14)) 2 1 (0 : Int32))) (ci := 6) (a := 1) (nv_As (nv_As (nv_As D1))) rfl
          show (bif Nat.blt (nv_s (tauC 101) 1) (a_n (s_I (s_I (s_I M1 0 10 v) 0 11 (a_I M1 1 14)) 2 1 (0 : Int32))) && Nat.beq (a_K (s_I (s_I (s_I M1 0 10 v) 0 11 (a_I M1 1 14)) 2 1 (0 : Int32)) (nv_s (tauC 101) 1)) 6 then _ else none) = _
          rw [hk9]
          rfl) ?_
        have B3 : nv_A nvB (tauC 101) (s_P (s_I (s_I (s_I M1 0 10 v) 0 11 (a_I M1 1 14)) 2 1 (0 : Int32)) 1 1 (some 4)) := nvB_sP rfl (by decide) (nv_As (nv_As (nv_As B1)))
        have D3 : nv_A (nvD 4 4) (tauC 101) (s_P (s_I (s_I (s_I M1 0 10 v) 0 11 (a_I M1 1 14)) 2 1 (0 : Int32)) 1 1 (some 4)) := nvD_A (by decide) (by decide) B3 k4 k1 p7 rfl
        refine nv_cut hct (nvD 4 4) 105 83 5 (S' := (d + 10, [], 105, 83, [(0, .inr (.inr (some 0))), (1, .inl n)], [.inr (.inr (some 101)), .inr (.inr (some 0))], (s_P (s_I (s_I (s_I M1 0 10 v) 0 11 (a_I M1 1 14)) 2 1 (0 : Int32)) 1 1 (some 4)))) D3 rfl ?_
        refine nv_z hz (pc' := 86) (lo' := [(0, .inr (.inr (some 0))), (1, .inl n)]) (st' := []) (M' := (s_P (s_P (s_I (s_I (s_I M1 0 10 v) 0 11 (a_I M1 1 14)) 2 1 (0 : Int32)) 1 1 (some 4)) 0 7 (some 101))) rfl (by
          have hk9 := nv_kd (M := (s_P (s_I (s_I (s_I M1 0 10 v) 0 11 (a_I M1 1 14)) 2 1 (0 : Int32)) 1 1 (some 4))) (ci := 11) (a := 0) D3 rfl
          show (bif Nat.blt (nv_s (tauC 101) 0) (a_n (s_P (s_I (s_I (s_I M1 0 10 v) 0 11 (a_I M1 1 14)) 2 1 (0 : Int32)) 1 1 (some 4))) && Nat.beq (a_K (s_P (s_I (s_I (s_I M1 0 10 v) 0 11 (a_I M1 1 14)) 2 1 (0 : Int32)) 1 1 (some 4)) (nv_s (tauC 101) 0)) 11 then _ else none) = _
          rw [hk9]
          rfl) ?_
        have B4 : nv_A nvB (tauC 101) (s_P (s_P (s_I (s_I (s_I M1 0 10 v) 0 11 (a_I M1 1 14)) 2 1 (0 : Int32)) 1 1 (some 4)) 0 7 (some 101)) := nvB_sP rfl (by decide) B3
        have D4 : nv_A (nvD 101 4) (tauC 101) (s_P (s_P (s_I (s_I (s_I M1 0 10 v) 0 11 (a_I M1 1 14)) 2 1 (0 : Int32)) 1 1 (some 4)) 0 7 (some 101)) := nvD_A (by decide) (by decide) B4 k4 k1 rfl rfl
        refine nv_cut hct (nvD 101 4) 96 0 83 (S' := (d + 9, [(105, 127, [(0, .inr (.inr (some 0))), (1, .inl n)], [])], 96, 0, la 0 [.inr (.inr (some 95))], [], (s_I (s_I (s_I (s_I (s_I (s_I (s_I (s_I (s_I (s_I (s_I (s_I (s_I (s_I (s_I (s_I (s_I (s_I (s_P (s_P (s_I (s_I (s_I M1 0 10 v) 0 11 (a_I M1 1 14)) 2 1 (0 : Int32)) 1 1 (some 4)) 0 7 (some 101)) 0 8 (1 : Int32)) 20 0 (0 : Int32)) 20 1 (0 : Int32)) 20 2 (0 : Int32)) 20 3 (0 : Int32)) 20 4 (0 : Int32)) 20 5 (0 : Int32)) 20 6 (0 : Int32)) 20 7 (0 : Int32)) 20 8 (0 : Int32)) 20 9 (0 : Int32)) 19 5 (0 : Int32)) 19 6 (0 : Int32)) 32 4 (0 : Int32)) 32 3 (0 : Int32)) 52 4 (0 : Int32)) 52 6 (0 : Int32)) 60 4 (0 : Int32)))) D4 rfl ?_
        refine nv_callv (c_wd hz (nv_As (nv_As (nv_As (nv_As (nv_As (nv_As (nv_As (nv_As (nv_As (nv_As (nv_As (nv_As (nv_As (nv_As (nv_As (nv_As (nv_As (nv_As D4))))))))))))))))))) (fun M5 ⟨N, n1, n2, n3⟩ => ?_)
        subst n3
        have D5 := eqE_A n1 (nv_As (nv_As (nv_As (nv_As (nv_As (nv_As (nv_As (nv_As (nv_As (nv_As (nv_As (nv_As (nv_As (nv_As (nv_As (nv_As (nv_As (nv_As D4))))))))))))))))))
        refine nv_cut hct (nvD 101 4) 105 138 13 (S' := (d + 10, [], 105, 138, [(0, .inr (.inr (some 0))), (1, .inl n)], [.inl (a_I N 101 10)], (s_I (s_I N 95 5 (-1 : Int32)) 0 9 (0 : Int32)))) (nv_As D5) rfl ?_
        exact nv_iret hct rfl rfl ⟨_, rfl, Or.inr ⟨lim, M1, v, ⟨hlim, by omega, e1⟩, ⟨E1, S1, T1, Q1⟩, Or.inr ⟨p, N, hm, K1 p hm, n1, n2, rfl, rfl⟩⟩⟩

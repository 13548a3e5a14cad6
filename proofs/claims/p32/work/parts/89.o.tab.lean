/-! The tables of names hold in the loop's memory. -/
theorem nv_lo {τ : Nat → Nat} {a : Nat} (h : a < 137) : nv_s τ a = a := by
  unfold nv_s
  rw [show Nat.blt a 137 = true from Nat.ble_eq.mpr h]
  rfl
theorem nv_hi {n0 i : Nat} (h : i < 15) : nv_s (tauN n0) (137 + i) = n0 + i := by
  unfold nv_s tauN
  rw [show Nat.blt (137 + i) 137 = false from Bool.eq_false_iff.mpr (fun q => by have := blt_lt q; omega), show Nat.ble aSB (137 + i) = false from Bool.eq_false_iff.mpr (fun q => by have := Nat.le_of_ble_eq_true q; have : aSB = 1000000000 := rfl; omega)]
  show n0 + (137 + i - 137) = n0 + i
  omega
theorem nvB_ok : ∀ b : Bool, ∀ a : Fin 137, (nvB_K a.1 = 0 ∨ nvB_K a.1 = RR.1 (rgP b a.1) + 1) ∧ (nvB_N a.1 = 0 ∨ nvB_N a.1 = RR.2.1 (rgP b a.1) + 1) := by decide +kernel
def inPT (a k : Nat) (x : Option (Option Nat)) : Bool := match x with
  | none => true
  | some none => false
  | some (some r) => PT.any (fun q => Nat.beq q.1 a && (Nat.beq q.2.1 k && Nat.beq q.2.2 r))
theorem nvB_okP : ∀ a : Fin 137, ∀ k : Fin 50, inPT a.1 k.1 (nvB_P a.1 k.1) = true := by decide +kernel
theorem nvB_lt {a c : Nat} (h : nvB_K a = c + 1) : a < 137 := by
  unfold nvB_K at h
  cases hb : Nat.blt a 137 with
  | true => exact blt_lt hb
  | false => rw [hb] at h; cases h
theorem nvB_ltN {a c : Nat} (h : nvB_N a = c + 1) : a < 137 := by
  unfold nvB_N at h
  cases hb : Nat.blt a 137 with
  | true => exact blt_lt hb
  | false => rw [hb] at h; cases h
theorem nvB_ltP {a k : Nat} {r : Option Nat} (h : nvB_P a k = some r) : a < 137 ∧ k < 50 := by
  unfold nvB_P at h
  cases hb : (Nat.blt a 137 && Nat.blt k 50) with
  | true =>
    obtain ⟨h1, h2⟩ := (Bool.and_eq_true _ _).mp hb
    exact ⟨blt_lt h1, blt_lt h2⟩
  | false => rw [hb] at h; cases h
theorem PT_r : ∀ q ∈ PT, q.2.2 < 137 := by decide +kernel
theorem LB_nv {τ : Nat → Nat} {b : Bool} {rg : Nat → Nat} {M : aM} (hL : LB b rg M) : nv_A nvB τ M := by
  obtain ⟨h1, h2, _, _, h5, h6, _⟩ := hL
  refine ⟨fun a c h => ?_, fun a n h => ?_, fun a k r h => ?_⟩
  · have ha := nvB_lt h
    rw [nv_lo ha]
    have hn : a < a_n M := by omega
    refine ⟨hn, ?_⟩
    rw [(h1.2 a hn).1, h2 a ha]
    have h : nvB_K a = c + 1 := h
    rcases (nvB_ok b ⟨a, ha⟩).1 with e | e
    · simp only at e; omega
    · simp only at e; omega
  · have ha := nvB_ltN h
    rw [nv_lo ha]
    have hn : a < a_n M := by omega
    rw [(h1.2 a hn).2.1, h2 a ha]
    have h : nvB_N a = n + 1 := h
    rcases (nvB_ok b ⟨a, ha⟩).2 with e | e
    · simp only at e; omega
    · simp only at e; omega
  · obtain ⟨ha, hk⟩ := nvB_ltP h
    rw [nv_lo ha]
    have hp := nvB_okP ⟨a, ha⟩ ⟨k, hk⟩
    have h : nvB_P a k = some r := h
    simp only [h] at hp
    rcases r with _ | r
    · cases hp
    · obtain ⟨q, q1, q2⟩ := List.any_eq_true.mp hp
      obtain ⟨e1, e2⟩ := (Bool.and_eq_true _ _).mp q2
      obtain ⟨e3, e4⟩ := (Bool.and_eq_true _ _).mp e2
      have := h6 q q1
      rw [nbT e1, nbT e3, nbT e4] at this
      rw [this]
      show some r = some (nv_s τ r)
      rw [nv_lo (by rw [← nbT e4]; exact PT_r q q1)]
/-- the table with a fresh shop -/
theorem nvR_ok : ∀ a : Fin 137, nvR_K a.1 = nvB_K a.1 ∧ nvR_N a.1 = nvB_N a.1 := by decide +kernel
theorem nvR_okP : ∀ a : Fin 137, ∀ k : Fin 50, nvR_P a.1 k.1 = (if a.1 = 113 ∧ k.1 = 4 then some (some 137) else nvB_P a.1 k.1) := by decide +kernel
theorem nvR_f : ∀ i : Fin 15, nvR_K (137 + i.1) = (if i.1 = 0 then 13 else kdL (i.1 - 1) + 1) ∧ nvR_N (137 + i.1) = (if i.1 = 0 then 0 else lnL (i.1 - 1) + 1) := by decide +kernel
theorem nvR_fP : ∀ i : Fin 15, ∀ k : Fin 50, nvR_P (137 + i.1) k.1 = (if i.1 = 0 ∧ 15 ≤ k.1 ∧ k.1 ≤ 28 then some (some (137 + (k.1 - 14))) else none) := by decide +kernel
theorem nvR_lt {a c : Nat} (h : nvR_K a = c + 1) : a < 152 := by
  unfold nvR_K at h
  cases hb : Nat.blt a 152 with
  | true => exact blt_lt hb
  | false => rw [hb] at h; cases h
theorem nvR_ltN {a c : Nat} (h : nvR_N a = c + 1) : a < 152 := by
  unfold nvR_N at h
  cases hb : Nat.blt a 152 with
  | true => exact blt_lt hb
  | false => rw [hb] at h; cases h
theorem nvR_ltP {a k : Nat} {r : Option Nat} (h : nvR_P a k = some r) : a < 152 ∧ k < 50 := by
  unfold nvR_P at h
  cases hb : (Nat.blt a 152 && Nat.blt k 50) with
  | true =>
    obtain ⟨h1, h2⟩ := (Bool.and_eq_true _ _).mp hb
    exact ⟨blt_lt h1, blt_lt h2⟩
  | false => rw [hb] at h; cases h
theorem nvR_A {n0 : Nat} {M0 M : aM} (hn : 137 ≤ n0) (hB : nv_A nvB (tauN n0) M0) (I : NwI n0 14 M0 M) : nv_A nvR (tauN n0) (s_P M 113 4 (some n0)) := by
  obtain ⟨⟨i1, _, _⟩, i4, ⟨i5, _, _⟩, i8⟩ := I
  have hP : ∀ a k, a_P (s_P M 113 4 (some n0)) a k = if a = 113 ∧ k = 4 then some n0 else a_P M a k := fun a k => aP_sP
  refine ⟨fun a c h => ?_, fun a n h => ?_, fun a k r h => ?_⟩
  · have ha := nvR_lt h
    show nv_s (tauN n0) a < a_n M ∧ a_K M (nv_s (tauN n0) a) = c
    by_cases hl : a < 137
    · have e := (nvR_ok ⟨a, hl⟩).1
      have h : nvR_K a = c + 1 := h
      simp only at e
      rw [e] at h
      obtain ⟨g1, g2⟩ := hB.1 a c h
      rw [nv_lo hl] at g1 g2 ⊢
      rw [(i4 a (by omega)).1]
      exact ⟨by omega, g2⟩
    · obtain ⟨i, rfl⟩ : ∃ i, a = 137 + i := ⟨a - 137, by omega⟩
      have e := (nvR_f ⟨i, by omega⟩).1
      have h : nvR_K (137 + i) = c + 1 := h
      simp only at e
      rw [e] at h
      rw [nv_hi (by omega)]
      refine ⟨by omega, ?_⟩
      by_cases e0 : i = 0
      · subst e0
        rw [if_pos rfl] at h
        rw [Nat.add_zero, i5]
        omega
      · rw [if_neg e0] at h
        have := (i8 (i - 1) (by omega)).1.1
        rw [show n0 + 1 + (i - 1) = n0 + i by omega] at this
        rw [this]
        omega
  · have ha := nvR_ltN h
    show a_N M (nv_s (tauN n0) a) = n
    by_cases hl : a < 137
    · have e := (nvR_ok ⟨a, hl⟩).2
      have h : nvR_N a = n + 1 := h
      simp only at e
      rw [e] at h
      have g := hB.2.1 a n h
      rw [nv_lo hl] at g ⊢
      rw [(i4 a (by omega)).2.1]
      exact g
    · obtain ⟨i, rfl⟩ : ∃ i, a = 137 + i := ⟨a - 137, by omega⟩
      have e := (nvR_f ⟨i, by omega⟩).2
      have h : nvR_N (137 + i) = n + 1 := h
      simp only at e
      rw [e] at h
      rw [nv_hi (by omega)]
      by_cases e0 : i = 0
      · subst e0
        rw [if_pos rfl] at h
        cases h
      · rw [if_neg e0] at h
        have := (i8 (i - 1) (by omega)).1.2.1
        rw [show n0 + 1 + (i - 1) = n0 + i by omega] at this
        rw [this]
        omega
  · obtain ⟨ha, hk⟩ := nvR_ltP h
    rw [hP]
    have h : nvR_P a k = some r := h
    by_cases hl : a < 137
    · have e := nvR_okP ⟨a, hl⟩ ⟨k, hk⟩
      simp only at e
      rw [e] at h
      rw [nv_lo hl]
      by_cases e4 : a = 113 ∧ k = 4
      · rw [if_pos e4] at h ⊢
        cases h
        show some n0 = some (nv_s (tauN n0) (137 + 0))
        rw [nv_hi (by omega), Nat.add_zero]
      · rw [if_neg e4] at h ⊢
        have g := hB.2.2 a k r h
        rw [nv_lo hl] at g
        rw [((i4 a (by omega)).2.2 k).2.2]
        exact g
    · obtain ⟨i, rfl⟩ : ∃ i, a = 137 + i := ⟨a - 137, by omega⟩
      have e := nvR_fP ⟨i, by omega⟩ ⟨k, hk⟩
      simp only at e
      rw [e] at h
      rw [nv_hi (by omega), if_neg (by omega)]
      by_cases e4 : i = 0 ∧ 15 ≤ k ∧ k ≤ 28
      · rw [if_pos e4] at h
        cases h
        have := (i8 (k - 15) (by omega)).1.2.2
        rw [show 15 + (k - 15) = k by omega, show n0 + 1 + (k - 15) = n0 + (k - 14) by omega] at this
        rw [e4.1, Nat.add_zero, this]
        show some (n0 + (k - 14)) = some (nv_s (tauN n0) (137 + (k - 14)))
        rw [nv_hi (by omega)]
      · rw [if_neg e4] at h
        cases h

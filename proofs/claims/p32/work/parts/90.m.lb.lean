/-! From the loop's invariant to the class's shop -/
def tld (b : Bool) : Nat := bif b then 101 else 4
def cur (b : Bool) : Nat := bif b then 4 else 101
theorem nv_c {t0 i : Nat} (h : i < 12) : nv_s (tauC t0) (300 + i) = t0 + i := by
  unfold nv_s tauC
  rw [show Nat.blt (300 + i) 137 = false from Bool.eq_false_iff.mpr (fun q => by have := blt_lt q; omega), show Nat.ble aSB (300 + i) = false from Bool.eq_false_iff.mpr (fun q => by have := Nat.le_of_ble_eq_true q; have : aSB = 1000000000 := rfl; omega)]
  show t0 + (300 + i - 300) = t0 + i
  omega
theorem nvC_lo : ∀ a : Fin 137, nvC_K a.1 = nvB_K a.1 ∧ nvC_N a.1 = nvB_N a.1 := by decide +kernel
theorem nvC_loP : ∀ a : Fin 137, ∀ k : Fin 50, nvC_P a.1 k.1 = (if a.1 = 1 ∧ k.1 = 1 then some (some 300) else nvB_P a.1 k.1) := by decide +kernel
theorem nvC_mid : ∀ a : Fin 312, 137 ≤ a.1 → a.1 < 300 → nvC_K a.1 = 0 ∧ nvC_N a.1 = 0 := by decide +kernel
theorem nvC_midP : ∀ a : Fin 163, ∀ k : Fin 50, nvC_P (a.1 + 137) k.1 = none := by decide +kernel
theorem nvC_hi : ∀ b : Bool, ∀ i : Fin 12, nvC_K (300 + i.1) = RR.1 (rgP b (tld b + i.1)) + 1 ∧ (nvC_N (300 + i.1) = 0 ∨ nvC_N (300 + i.1) = RR.2.1 (rgP b (tld b + i.1)) + 1) := by decide +kernel
def inPC (b : Bool) (i k : Nat) (x : Option (Option Nat)) : Bool := match x with
  | none => true
  | some none => false
  | some (some r) => (Nat.ble 300 r && Nat.blt r 312) && PT.any (fun q => Nat.beq q.1 (tld b + i) && (Nat.beq q.2.1 k && Nat.beq q.2.2 (tld b + (r - 300))))
theorem nvC_hiP : ∀ b : Bool, ∀ i : Fin 12, ∀ k : Fin 50, inPC b i.1 k.1 (nvC_P (300 + i.1) k.1) = true := by decide +kernel
theorem nvC_lt {a c : Nat} (h : nvC_K a = c + 1) : a < 312 := by
  unfold nvC_K at h
  cases hb : Nat.blt a 312 with
  | true => exact blt_lt hb
  | false => rw [hb] at h; cases h
theorem nvC_ltN {a c : Nat} (h : nvC_N a = c + 1) : a < 312 := by
  unfold nvC_N at h
  cases hb : Nat.blt a 312 with
  | true => exact blt_lt hb
  | false => rw [hb] at h; cases h
theorem nvC_ltP {a k : Nat} {r : Option Nat} (h : nvC_P a k = some r) : a < 312 ∧ k < 50 := by
  unfold nvC_P at h
  cases hb : (Nat.blt a 312 && Nat.blt k 50) with
  | true =>
    obtain ⟨h1, h2⟩ := (Bool.and_eq_true _ _).mp hb
    exact ⟨blt_lt h1, blt_lt h2⟩
  | false => rw [hb] at h; cases h
theorem tld_lt : ∀ b : Bool, ∀ i : Fin 12, tld b + i.1 < 137 := by decide
theorem LB_nvC {b : Bool} {rg : Nat → Nat} {M : aM} (hL : LB b rg M) : nv_A nvC (tauC (tld b)) M := by
  have hB : nv_A nvB (tauC (tld b)) M := LB_nv hL
  obtain ⟨h1, h2, _, _, h5, h6, _, h8⟩ := hL
  refine ⟨fun a c h => ?_, fun a n h => ?_, fun a k r h => ?_⟩
  · have h : nvC_K a = c + 1 := h
    have ha := nvC_lt h
    by_cases e : a < 137
    · exact hB.1 a c ((nvC_lo ⟨a, e⟩).1.symm.trans h)
    · by_cases e2 : a < 300
      · have := (nvC_mid ⟨a, ha⟩ (by show 137 ≤ a; omega) e2).1
        simp only at this
        omega
      · obtain ⟨i, rfl⟩ : ∃ i, a = 300 + i := ⟨a - 300, by omega⟩
        have hi : i < 12 := by omega
        rw [nv_c hi]
        have hl := tld_lt b ⟨i, hi⟩
        simp only at hl
        have hn : tld b + i < a_n M := by omega
        refine ⟨hn, ?_⟩
        rw [(h1.2 _ hn).1, h2 _ hl]
        have := (nvC_hi b ⟨i, hi⟩).1
        simp only at this
        omega
  · have h : nvC_N a = n + 1 := h
    have ha := nvC_ltN h
    by_cases e : a < 137
    · exact hB.2.1 a n ((nvC_lo ⟨a, e⟩).2.symm.trans h)
    · by_cases e2 : a < 300
      · have := (nvC_mid ⟨a, ha⟩ (by show 137 ≤ a; omega) e2).2
        simp only at this
        omega
      · obtain ⟨i, rfl⟩ : ∃ i, a = 300 + i := ⟨a - 300, by omega⟩
        have hi : i < 12 := by omega
        rw [nv_c hi]
        have hl := tld_lt b ⟨i, hi⟩
        simp only at hl
        have hn : tld b + i < a_n M := by omega
        rw [(h1.2 _ hn).2.1, h2 _ hl]
        have := (nvC_hi b ⟨i, hi⟩).2
        simp only at this
        omega
  · have h : nvC_P a k = some r := h
    obtain ⟨ha, hk⟩ := nvC_ltP h
    by_cases e : a < 137
    · have e3 := nvC_loP ⟨a, e⟩ ⟨k, hk⟩
      simp only at e3
      rw [e3] at h
      by_cases e4 : a = 1 ∧ k = 1
      · rw [if_pos e4] at h
        cases h
        rw [e4.1, e4.2, nv_lo (by decide), h8]
        show some (tld b) = some (nv_s (tauC (tld b)) (300 + 0))
        rw [nv_c (by decide), Nat.add_zero]
      · rw [if_neg e4] at h
        exact hB.2.2 a k r h
    · by_cases e2 : a < 300
      · have := nvC_midP ⟨a - 137, by omega⟩ ⟨k, hk⟩
        simp only at this
        rw [show a - 137 + 137 = a by omega, h] at this
        cases this
      · obtain ⟨i, rfl⟩ : ∃ i, a = 300 + i := ⟨a - 300, by omega⟩
        have hi : i < 12 := by omega
        rw [nv_c hi]
        have hp := nvC_hiP b ⟨i, hi⟩ ⟨k, hk⟩
        simp only [h] at hp
        rcases r with _ | r
        · cases hp
        · obtain ⟨hr, hp⟩ := (Bool.and_eq_true _ _).mp hp
          obtain ⟨r1, r2⟩ := (Bool.and_eq_true _ _).mp hr
          have r1 := Nat.le_of_ble_eq_true r1
          have r2 := blt_lt r2
          obtain ⟨q, q1, q2⟩ := List.any_eq_true.mp hp
          obtain ⟨e1, e2⟩ := (Bool.and_eq_true _ _).mp q2
          obtain ⟨e3, e4⟩ := (Bool.and_eq_true _ _).mp e2
          have := h6 q q1
          rw [nbT e1, nbT e3, nbT e4] at this
          rw [this]
          obtain ⟨j, rfl⟩ : ∃ j, r = 300 + j := ⟨r - 300, by omega⟩
          show _ = some (nv_s (tauC (tld b)) (300 + j))
          rw [nv_c (by omega), Nat.add_sub_cancel_left]
theorem LB_nvD {b : Bool} {rg : Nat → Nat} {M : aM} {τ : Nat → Nat} (hL : LB b rg M) : nv_A (nvD (cur b) (tld b)) τ M := by
  have hB : nv_A nvB τ M := LB_nv hL
  obtain ⟨h1, h2, _, _, h5, _, h7, h8⟩ := hL
  refine nvD_A (by cases b <;> decide) (by cases b <;> decide) hB ⟨by omega, ?_⟩ ⟨by omega, ?_⟩ h7 h8
  · rw [(h1.2 4 (by omega)).1, h2 4 (by omega)]; cases b <;> rfl
  · rw [(h1.2 101 (by omega)).1, h2 101 (by omega)]; cases b <;> rfl
theorem LB_ty {b : Bool} {rg : Nat → Nat} {M : aM} (hL : LB b rg M) {a k : Nat} {lo hi : Int} (ha : a < 137) (hw : Nat.blt k (RR.2.2.1 (rgP b a)) = true) (ht : ysl RR (rgP b a) k = .inl (lo, hi)) : lo ≤ (a_I M a k).toInt ∧ (a_I M a k).toInt ≤ hi := by
  obtain ⟨h1, h2, _, _, h5, _⟩ := hL
  have := (h1.2 a (by omega)).2.2 k (by rw [h2 a ha]; exact blt_lt hw)
  rw [h2 a ha, ht] at this
  exact this
theorem isB_i {x : Int32} (h : 0 ≤ x.toInt ∧ x.toInt ≤ 1) : isB x = true := by
  unfold isB
  by_cases e : x.toInt = 0
  · rw [show x = 0 from Int32.toInt_inj.mp e]; rfl
  · rw [show x = 1 from Int32.toInt_inj.mp (show x.toInt = 1 by omega)]; rfl
theorem LB_Ty {b : Bool} {rg : Nat → Nat} {M : aM} (hL : LB b rg M) : Ty (tld b) M := by
  refine ⟨⟨isB_i (LB_ty hL (by decide) (by cases b <;> rfl) (by cases b <;> rfl)), isB_i (LB_ty hL (by decide) (by cases b <;> rfl) (by cases b <;> rfl)), isB_i (LB_ty hL (by decide) (by cases b <;> rfl) (by cases b <;> rfl))⟩, ⟨LB_ty hL (by cases b <;> decide) (by cases b <;> rfl) (by cases b <;> rfl), LB_ty hL (by cases b <;> decide) (by cases b <;> rfl) (by cases b <;> rfl)⟩, fun k hk => ?_⟩
  exact ⟨rfl, rfl⟩
def clB (M : aM) (k : Nat) : Int := (a_I M 3 k &&& 255).toInt
theorem LB_Pr {b : Bool} {rg : Nat → Nat} {M : aM} (hL : LB b rg M) : PrC (tld b) (clB M) M M := ⟨LB_nvC hL, fun _ _ => rfl, by cases b; exact Or.inl rfl; exact Or.inr rfl, eqE_rf, LB_Ty hL⟩

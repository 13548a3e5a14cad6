/-! Every call over the loop's invariant: printed by wip/gen/loop.py -/
def protT (L : List (Nat × Nat)) : Bool := !msL L 9 1 && !msL L 13 6
/-- the loop's invariant -/
def LI (q : Nat) (M : aM) : Prop := ∃ b rg, LB b rg M ∧ JM rg M ∧ a_I M 2 1 = a_I M 113 6 ∧ a_n M ≤ 137 + 15 * q ∧ a_c M ≤ 1000 + 15 * q ∧ a_z M ≤ 100000 + 169 * q
def cInt (c : yC) : Bool := c.2.1.all (fun a => a.1.isSome)
theorem cQ_i {rg : Nat → Nat} {M M' : aM} {ρ : List Int} {c : yC} {r : Option aV} (hc : cInt c = true) (h : cQ RR rg M ρ c r M') : ∃ x, r = some (.inl x) := by
  obtain ⟨_, _, a, ha, hp⟩ := h
  have h1 := List.all_eq_true.mp hc a ha
  have hp := hp.1
  rcases a with ⟨a1, a2⟩
  rcases a1 with _ | a1
  · cases h1
  · rcases r with _ | (x | x)
    · exact (show False from hp).elim
    · exact ⟨x, rfl⟩
    · exact (show False from hp).elim
theorem tp_fr {b : Bool} {rg : Nat → Nat} {M M' : aM} {L : List (Nat × Nat)} (hL : LB b rg M) (hF : Fr RR (msL L) rg M M') (p : protT L = true) (h : a_I M 2 1 = a_I M 113 6) : a_I M' 2 1 = a_I M' 113 6 := by
  obtain ⟨p1, p2⟩ := (Bool.and_eq_true _ _).mp p
  rw [Fr_I hF (rg_at hL (a := 2) (by omega) (fun b => by cases b <;> rfl)) (show msL L 9 1 = false from bnot p1), Fr_I hF (rg_at hL (a := 113) (by omega) (fun b => by cases b <;> rfl)) (show msL L 13 6 = false from bnot p2)]
  exact h
theorem LI_c {q : Nat} {b : Bool} {rg : Nat → Nat} {M M' : aM} {L : List (Nat × Nat)} (hL : LB b rg M) (hJ' : JM rg M') (hT9 : hT RR rg M') (hF : Fr RR (msL L) rg M M') (p1 : ∀ b, protB b L = true) (p3 : protT L = true) (h : a_I M 2 1 = a_I M 113 6) (hr : a_n M ≤ 137 + 15 * q ∧ a_c M ≤ 1000 + 15 * q ∧ a_z M ≤ 100000 + 169 * q) : LI q M' := ⟨b, rg, LB_fr hL hT9 hF (p1 b), hJ', tp_fr hL hF p3 h, by rw [hF.1.1]; exact hr.1, by rw [hF.1.2.2]; exact hr.2.1, by rw [hF.1.2.1]; exact hr.2.2⟩
theorem JM_dn {b : Bool} {rg : Nat → Nat} {M M' : aM} {L : List (Nat × Nat)} (hL : LB b rg M) (hJ : JM rg M) (hF : Fr RR (msL L) rg M M') (hp : (!msL L 13 3 && (!msL L 12 0 && (!msL L 12 12 && !msL L 643 0))) = true) {u : Nat} (hu : a_P M 113 3 = some u) (hd : 0 ≤ dnM M' ∧ dnM M' ≤ 30) (hd2 : dnM M' ≤ (a_I M u 0).toInt) (hb : (a_I M' 113 31).toInt ≤ 0) : JM rg M' := by
  obtain ⟨p1, p2⟩ := (Bool.and_eq_true _ _).mp hp
  obtain ⟨p3, p4⟩ := (Bool.and_eq_true _ _).mp p2
  obtain ⟨p5, p6⟩ := (Bool.and_eq_true _ _).mp p4
  refine ⟨hd, Or.inr ⟨u, ?_, ?_⟩, fun k hk => ?_⟩
  · rw [Fr_P hF (rg_at hL (a := 113) (by omega) (fun b => by cases b <;> rfl)) (show msL L 13 3 = false from bnot p1)]; exact hu
  · exact JS_fr (b := b) hF (JM_u hJ hu) hd2 (bnot p3) (bnot p5) (bnot p6)
  · omega
theorem vl_dr {v : Int} (h1 : 2 ≤ v) (h2 : v ≤ 30) : v ∈ vl_Mdrill := by
  have : ∀ n : Fin 29, ((n.1 : Int) + 2) ∈ vl_Mdrill := by decide +kernel
  have := this ⟨(v - 2).toNat, by omega⟩
  simp only at this
  rw [show (((v - 2).toNat : Nat) : Int) + 2 = v by omega] at this
  exact this
theorem vl_fw {v : Int} (h1 : 4 ≤ v) (h2 : v ≤ 30) : v ∈ vl_Mfewest := by
  have : ∀ n : Fin 27, ((n.1 : Int) + 4) ∈ vl_Mfewest := by decide +kernel
  have := this ⟨(v - 4).toNat, by omega⟩
  simp only at this
  rw [show (((v - 4).toNat : Nat) : Int) + 4 = v by omega] at this
  exact this
theorem xw_rod {cd : Nat → Nat → Option aI} {z : Bool} (hz : ∀ m p i, cd0 z m p = some i → cd m p = some i) {q : Nat} {M : aM} (hI : LI q M) (x1 : Int32) (h1 : 0 ≤ x1.toInt ∧ x1.toInt ≤ 1) : wpS cd (39, [], 108, 0, la 0 [.inr (.inr (some 0)), .inl x1], [], M) (fun r M' => ∃ x, r = some (.inl x) ∧ LI q M') := by
  have hct := hc_of hz
  obtain ⟨b, rg, hL, hJ, hT, hr⟩ := hI
  exact wpS_mono (oXrod hct hL x1 h1 (d := 39) (by omega)) (fun r M' h => ⟨_, (cQ_i rfl h).choose_spec, LI_c hL (JM_fr hL hJ h.2.1 oXrod_j) h.1 h.2.1 oXrod_p (by decide) hT hr⟩)
theorem xw_drill {cd : Nat → Nat → Option aI} {z : Bool} (hz : ∀ m p i, cd0 z m p = some i → cd m p = some i) {q : Nat} {M : aM} (hI : LI q M) (x1 : Int32) : wpS cd (39, [], 109, 0, la 0 [.inr (.inr (some 0)), .inl x1], [], M) (fun r M' => ∃ x, r = some (.inl x) ∧ LI q M') := by
  have hct := hc_of hz
  obtain ⟨b, rg, hL, hJ, hT, hr⟩ := hI
  exact wpS_mono (oXdrill hct hL x1 (d := 39) (by omega)) (fun r M' h => ⟨_, (cQ_i rfl h).choose_spec, LI_c hL (JM_fr hL hJ h.2.1 oXdrill_j) h.1 h.2.1 oXdrill_p (by decide) hT hr⟩)
theorem xw_inch {cd : Nat → Nat → Option aI} {z : Bool} (hz : ∀ m p i, cd0 z m p = some i → cd m p = some i) {q : Nat} {M : aM} (hI : LI q M) (x1 : Int32) (x2 : Int32) : wpS cd (39, [], 110, 0, la 0 [.inr (.inr (some 0)), .inl x1, .inl x2], [], M) (fun r M' => ∃ x, r = some (.inl x) ∧ LI q M') := by
  have hct := hc_of hz
  obtain ⟨b, rg, hL, hJ, hT, hr⟩ := hI
  exact wpS_mono (oXinch hct hL x1 x2 (d := 39) (by omega)) (fun r M' h => ⟨_, (cQ_i rfl h).choose_spec, LI_c hL (JM_fr hL hJ h.2.1 oXinch_j) h.1 h.2.1 oXinch_p (by decide) hT hr⟩)
theorem xw_odds {cd : Nat → Nat → Option aI} {z : Bool} (hz : ∀ m p i, cd0 z m p = some i → cd m p = some i) {q : Nat} {M : aM} (hI : LI q M) (x1 : Int32) (x2 : Int32) : wpS cd (39, [], 112, 0, la 0 [.inr (.inr (some 0)), .inl x1, .inl x2], [], M) (fun r M' => ∃ x, r = some (.inl x) ∧ LI q M') := by
  have hct := hc_of hz
  obtain ⟨b, rg, hL, hJ, hT, hr⟩ := hI
  exact wpS_mono (oXodds hct hL x1 x2 (d := 39) (by omega)) (fun r M' h => ⟨_, (cQ_i rfl h).choose_spec, LI_c hL (JM_fr hL hJ h.2.1 oXodds_j) h.1 h.2.1 oXodds_p (by decide) hT hr⟩)
theorem xw_rows {cd : Nat → Nat → Option aI} {z : Bool} (hz : ∀ m p i, cd0 z m p = some i → cd m p = some i) {q : Nat} {M : aM} (hI : LI q M) (x1 : Int32) : wpS cd (39, [], 113, 0, la 0 [.inr (.inr (some 0)), .inl x1], [], M) (fun r M' => ∃ x, r = some (.inl x) ∧ LI q M') := by
  have hct := hc_of hz
  obtain ⟨b, rg, hL, hJ, hT, hr⟩ := hI
  exact wpS_mono (oXrows hct hL x1 (d := 39) (by omega)) (fun r M' h => ⟨_, (cQ_i rfl h).choose_spec, LI_c hL (JM_fr hL hJ h.2.1 oXrows_j) h.1 h.2.1 oXrows_p (by decide) hT hr⟩)
theorem xw_cheapest {cd : Nat → Nat → Option aI} {z : Bool} (hz : ∀ m p i, cd0 z m p = some i → cd m p = some i) {q : Nat} {M : aM} (hI : LI q M) (x1 : Int32) (x2 : Int32) : wpS cd (39, [], 114, 0, la 0 [.inr (.inr (some 0)), .inl x1, .inl x2], [], M) (fun r M' => ∃ x, r = some (.inl x) ∧ LI q M') := by
  have hct := hc_of hz
  obtain ⟨b, rg, hL, hJ, hT, hr⟩ := hI
  exact wpS_mono (oXcheapest hct hL x1 x2 (d := 39) (by omega)) (fun r M' h => ⟨_, (cQ_i rfl h).choose_spec, LI_c hL (JM_fr hL hJ h.2.1 oXcheapest_j) h.1 h.2.1 oXcheapest_p (by decide) hT hr⟩)
theorem xw_feedAt {cd : Nat → Nat → Option aI} {z : Bool} (hz : ∀ m p i, cd0 z m p = some i → cd m p = some i) {q : Nat} {M : aM} (hI : LI q M) (x1 : Int32) : wpS cd (39, [], 115, 0, la 0 [.inr (.inr (some 0)), .inl x1], [], M) (fun r M' => ∃ x, r = some (.inl x) ∧ LI q M') := by
  have hct := hc_of hz
  obtain ⟨b, rg, hL, hJ, hT, hr⟩ := hI
  exact wpS_mono (oXfeedAt hct hL x1 (d := 39) (by omega)) (fun r M' h => ⟨_, (cQ_i rfl h).choose_spec, LI_c hL (JM_fr hL hJ h.2.1 oXfeedAt_j) h.1 h.2.1 oXfeedAt_p (by decide) hT hr⟩)
theorem xw_met {cd : Nat → Nat → Option aI} {z : Bool} (hz : ∀ m p i, cd0 z m p = some i → cd m p = some i) {q : Nat} {M : aM} (hI : LI q M) (x1 : Int32) : wpS cd (39, [], 116, 0, la 0 [.inr (.inr (some 0)), .inl x1], [], M) (fun r M' => ∃ x, r = some (.inl x) ∧ LI q M') := by
  have hct := hc_of hz
  obtain ⟨b, rg, hL, hJ, hT, hr⟩ := hI
  exact wpS_mono (oXmet hct hL x1 (d := 39) (by omega)) (fun r M' h => ⟨_, (cQ_i rfl h).choose_spec, LI_c hL (JM_fr hL hJ h.2.1 oXmet_j) h.1 h.2.1 oXmet_p (by decide) hT hr⟩)
theorem xw_meet {cd : Nat → Nat → Option aI} {z : Bool} (hz : ∀ m p i, cd0 z m p = some i → cd m p = some i) {q : Nat} {M : aM} (hI : LI q M) : wpS cd (39, [], 117, 0, la 0 [.inr (.inr (some 0))], [], M) (fun r M' => ∃ x, r = some (.inl x) ∧ LI q M') := by
  have hct := hc_of hz
  obtain ⟨b, rg, hL, hJ, hT, hr⟩ := hI
  exact wpS_mono (oXmeet hct hL (d := 39) (by omega)) (fun r M' h => ⟨_, (cQ_i rfl h).choose_spec, LI_c hL (JM_fr hL hJ h.2.1 oXmeet_j) h.1 h.2.1 oXmeet_p (by decide) hT hr⟩)
theorem xw_felt {cd : Nat → Nat → Option aI} {z : Bool} (hz : ∀ m p i, cd0 z m p = some i → cd m p = some i) {q : Nat} {M : aM} (hI : LI q M) (x1 : Int32) (x2 : Int32) : wpS cd (39, [], 118, 0, la 0 [.inr (.inr (some 0)), .inl x1, .inl x2], [], M) (fun r M' => ∃ x, r = some (.inl x) ∧ LI q M') := by
  have hct := hc_of hz
  obtain ⟨b, rg, hL, hJ, hT, hr⟩ := hI
  exact wpS_mono (oXfelt hct hL x1 x2 (d := 39) (by omega)) (fun r M' h => ⟨_, (cQ_i rfl h).choose_spec, LI_c hL (JM_fr hL hJ h.2.1 oXfelt_j) h.1 h.2.1 oXfelt_p (by decide) hT hr⟩)
theorem xw_forget {cd : Nat → Nat → Option aI} {z : Bool} (hz : ∀ m p i, cd0 z m p = some i → cd m p = some i) {q : Nat} {M : aM} (hI : LI q M) : wpS cd (39, [], 119, 0, la 0 [.inr (.inr (some 0))], [], M) (fun r M' => ∃ x, r = some (.inl x) ∧ LI q M') := by
  have hct := hc_of hz
  obtain ⟨b, rg, hL, hJ, hT, hr⟩ := hI
  exact wpS_mono (oXforget hct hL (d := 39) (by omega)) (fun r M' h => ⟨_, (cQ_i rfl h).choose_spec, LI_c hL (JM_fr hL hJ h.2.1 oXforget_j) h.1 h.2.1 oXforget_p (by decide) hT hr⟩)
theorem xw_causes {cd : Nat → Nat → Option aI} {z : Bool} (hz : ∀ m p i, cd0 z m p = some i → cd m p = some i) {q : Nat} {M : aM} (hI : LI q M) : wpS cd (39, [], 120, 0, la 0 [.inr (.inr (some 0))], [], M) (fun r M' => ∃ x, r = some (.inl x) ∧ LI q M') := by
  have hct := hc_of hz
  obtain ⟨b, rg, hL, hJ, hT, hr⟩ := hI
  exact wpS_mono (oXcauses hct hL (d := 39) (by omega)) (fun r M' h => ⟨_, (cQ_i rfl h).choose_spec, LI_c hL (JM_fr hL hJ h.2.1 oXcauses_j) h.1 h.2.1 oXcauses_p (by decide) hT hr⟩)
theorem xw_cause {cd : Nat → Nat → Option aI} {z : Bool} (hz : ∀ m p i, cd0 z m p = some i → cd m p = some i) {q : Nat} {M : aM} (hI : LI q M) (x1 : Int32) (x2 : Int32) : wpS cd (39, [], 121, 0, la 0 [.inr (.inr (some 0)), .inl x1, .inl x2], [], M) (fun r M' => ∃ x, r = some (.inl x) ∧ LI q M') := by
  have hct := hc_of hz
  obtain ⟨b, rg, hL, hJ, hT, hr⟩ := hI
  exact wpS_mono (oXcause hct hL x1 x2 (d := 39) (by omega)) (fun r M' h => ⟨_, (cQ_i rfl h).choose_spec, LI_c hL (JM_fr hL hJ h.2.1 oXcause_j) h.1 h.2.1 oXcause_p (by decide) hT hr⟩)
theorem xw_sure {cd : Nat → Nat → Option aI} {z : Bool} (hz : ∀ m p i, cd0 z m p = some i → cd m p = some i) {q : Nat} {M : aM} (hI : LI q M) (x1 : Int32) : wpS cd (39, [], 122, 0, la 0 [.inr (.inr (some 0)), .inl x1], [], M) (fun r M' => ∃ x, r = some (.inl x) ∧ LI q M') := by
  have hct := hc_of hz
  obtain ⟨b, rg, hL, hJ, hT, hr⟩ := hI
  exact wpS_mono (oXsure hct hL x1 (d := 39) (by omega)) (fun r M' h => ⟨_, (cQ_i rfl h).choose_spec, LI_c hL (JM_fr hL hJ h.2.1 oXsure_j) h.1 h.2.1 oXsure_p (by decide) hT hr⟩)
theorem xw_off {cd : Nat → Nat → Option aI} {z : Bool} (hz : ∀ m p i, cd0 z m p = some i → cd m p = some i) {q : Nat} {M : aM} (hI : LI q M) (x1 : Int32) (x2 : Int32) (h2 : 0 ≤ x2.toInt ∧ x2.toInt ≤ 1) : wpS cd (39, [], 123, 0, la 0 [.inr (.inr (some 0)), .inl x1, .inl x2], [], M) (fun r M' => ∃ x, r = some (.inl x) ∧ LI q M') := by
  have hct := hc_of hz
  obtain ⟨b, rg, hL, hJ, hT, hr⟩ := hI
  exact wpS_mono (oXoff hct hL x1 x2 h2 (d := 39) (by omega)) (fun r M' h => ⟨_, (cQ_i rfl h).choose_spec, LI_c hL (JM_fr hL hJ h.2.1 oXoff_j) h.1 h.2.1 oXoff_p (by decide) hT hr⟩)
theorem xw_ring {cd : Nat → Nat → Option aI} {z : Bool} (hz : ∀ m p i, cd0 z m p = some i → cd m p = some i) {q : Nat} {M : aM} (hI : LI q M) (x1 : Int32) : wpS cd (39, [], 124, 0, la 0 [.inr (.inr (some 0)), .inl x1], [], M) (fun r M' => ∃ x, r = some (.inl x) ∧ LI q M') := by
  have hct := hc_of hz
  obtain ⟨b, rg, hL, hJ, hT, hr⟩ := hI
  exact wpS_mono (oXring hct hL x1 (d := 39) (by omega)) (fun r M' h => ⟨_, (cQ_i rfl h).choose_spec, LI_c hL (JM_fr hL hJ h.2.1 oXring_j) h.1 h.2.1 oXring_p (by decide) hT hr⟩)
theorem xw_sees {cd : Nat → Nat → Option aI} {z : Bool} (hz : ∀ m p i, cd0 z m p = some i → cd m p = some i) {q : Nat} {M : aM} (hI : LI q M) (x1 : Int32) : wpS cd (39, [], 125, 0, la 0 [.inr (.inr (some 0)), .inl x1], [], M) (fun r M' => ∃ x, r = some (.inl x) ∧ LI q M') := by
  have hct := hc_of hz
  obtain ⟨b, rg, hL, hJ, hT, hr⟩ := hI
  exact wpS_mono (oXsees hct hL x1 (d := 39) (by omega)) (fun r M' h => ⟨_, (cQ_i rfl h).choose_spec, LI_c hL (JM_fr hL hJ h.2.1 oXsees_j) h.1 h.2.1 oXsees_p (by decide) hT hr⟩)
theorem xw_blow {cd : Nat → Nat → Option aI} {z : Bool} (hz : ∀ m p i, cd0 z m p = some i → cd m p = some i) {q : Nat} {M : aM} (hI : LI q M) (x1 : Int32) (x2 : Int32) (x3 : Int32) : wpS cd (39, [], 126, 0, la 0 [.inr (.inr (some 0)), .inl x1, .inl x2, .inl x3], [], M) (fun r M' => ∃ x, r = some (.inl x) ∧ LI q M') := by
  have hct := hc_of hz
  obtain ⟨b, rg, hL, hJ, hT, hr⟩ := hI
  exact wpS_mono (oXblow hct hL x1 x2 x3 (d := 39) (by omega)) (fun r M' h => ⟨_, (cQ_i rfl h).choose_spec, LI_c hL (JM_fr hL hJ h.2.1 oXblow_j) h.1 h.2.1 oXblow_p (by decide) hT hr⟩)
theorem xw_fewest {cd : Nat → Nat → Option aI} {z : Bool} (hz : ∀ m p i, cd0 z m p = some i → cd m p = some i) {q : Nat} {M : aM} (hI : LI q M) (x1 : Int32) (x2 : Int32) : wpS cd (39, [], 127, 0, la 0 [.inr (.inr (some 0)), .inl x1, .inl x2], [], M) (fun r M' => ∃ x, r = some (.inl x) ∧ LI q M') := by
  have hct := hc_of hz
  obtain ⟨b, rg, hL, hJ, hT, hr⟩ := hI
  exact wpS_mono (oXfewest hct hL x1 x2 (d := 39) (by omega)) (fun r M' h => ⟨_, (cQ_i rfl h).choose_spec, LI_c hL (JM_fr hL hJ h.2.1 oXfewest_j) h.1 h.2.1 oXfewest_p (by decide) hT hr⟩)
theorem xw_stroke {cd : Nat → Nat → Option aI} {z : Bool} (hz : ∀ m p i, cd0 z m p = some i → cd m p = some i) {q : Nat} {M : aM} (hI : LI q M) (x1 : Int32) : wpS cd (39, [], 128, 0, la 0 [.inr (.inr (some 0)), .inl x1], [], M) (fun r M' => ∃ x, r = some (.inl x) ∧ LI q M') := by
  have hct := hc_of hz
  obtain ⟨b, rg, hL, hJ, hT, hr⟩ := hI
  exact wpS_mono (oXstroke hct hL x1 (d := 39) (by omega)) (fun r M' h => ⟨_, (cQ_i rfl h).choose_spec, LI_c hL (JM_fr hL hJ h.2.1 oXstroke_j) h.1 h.2.1 oXstroke_p (by decide) hT hr⟩)
theorem xw_heat {cd : Nat → Nat → Option aI} {z : Bool} (hz : ∀ m p i, cd0 z m p = some i → cd m p = some i) {q : Nat} {M : aM} (hI : LI q M) : wpS cd (39, [], 129, 0, la 0 [.inr (.inr (some 0))], [], M) (fun r M' => ∃ x, r = some (.inl x) ∧ LI q M') := by
  have hct := hc_of hz
  obtain ⟨b, rg, hL, hJ, hT, hr⟩ := hI
  exact wpS_mono (oXheat hct hL (d := 39) (by omega)) (fun r M' h => ⟨_, (cQ_i rfl h).choose_spec, LI_c hL (JM_fr hL hJ h.2.1 oXheat_j) h.1 h.2.1 oXheat_p (by decide) hT hr⟩)
theorem xw_about {cd : Nat → Nat → Option aI} {z : Bool} (hz : ∀ m p i, cd0 z m p = some i → cd m p = some i) {q : Nat} {M : aM} (hI : LI q M) : wpS cd (39, [], 130, 0, la 0 [.inr (.inr (some 0))], [], M) (fun r M' => ∃ x, r = some (.inl x) ∧ LI q M') := by
  have hct := hc_of hz
  obtain ⟨b, rg, hL, hJ, hT, hr⟩ := hI
  exact wpS_mono (oXabout hct hL (d := 39) (by omega)) (fun r M' h => ⟨_, (cQ_i rfl h).choose_spec, LI_c hL (JM_fr hL hJ h.2.1 oXabout_j) h.1 h.2.1 oXabout_p (by decide) hT hr⟩)
theorem xw_wall {cd : Nat → Nat → Option aI} {z : Bool} (hz : ∀ m p i, cd0 z m p = some i → cd m p = some i) {q : Nat} {M : aM} (hI : LI q M) (x1 : Int32) (x2 : Int32) (x3 : Int32) : wpS cd (39, [], 131, 0, la 0 [.inr (.inr (some 0)), .inl x1, .inl x2, .inl x3], [], M) (fun r M' => ∃ x, r = some (.inl x) ∧ LI q M') := by
  have hct := hc_of hz
  obtain ⟨b, rg, hL, hJ, hT, hr⟩ := hI
  exact wpS_mono (oXwall hct hL x1 x2 x3 (d := 39) (by omega)) (fun r M' h => ⟨_, (cQ_i rfl h).choose_spec, LI_c hL (JM_fr hL hJ h.2.1 oXwall_j) h.1 h.2.1 oXwall_p (by decide) hT hr⟩)
theorem xw_clear {cd : Nat → Nat → Option aI} {z : Bool} (hz : ∀ m p i, cd0 z m p = some i → cd m p = some i) {q : Nat} {M : aM} (hI : LI q M) : wpS cd (39, [], 132, 0, la 0 [.inr (.inr (some 0))], [], M) (fun r M' => ∃ x, r = some (.inl x) ∧ LI q M') := by
  have hct := hc_of hz
  obtain ⟨b, rg, hL, hJ, hT, hr⟩ := hI
  exact wpS_mono (oXclear hct hL (d := 39) (by omega)) (fun r M' h => ⟨_, (cQ_i rfl h).choose_spec, LI_c hL (JM_fr hL hJ h.2.1 oXclear_j) h.1 h.2.1 oXclear_p (by decide) hT hr⟩)
theorem xw_lies {cd : Nat → Nat → Option aI} {z : Bool} (hz : ∀ m p i, cd0 z m p = some i → cd m p = some i) {q : Nat} {M : aM} (hI : LI q M) (x1 : Int32) (x2 : Int32) (x3 : Int32) (h3 : 0 ≤ x3.toInt ∧ x3.toInt ≤ 1) : wpS cd (39, [], 133, 0, la 0 [.inr (.inr (some 0)), .inl x1, .inl x2, .inl x3], [], M) (fun r M' => ∃ x, r = some (.inl x) ∧ LI q M') := by
  have hct := hc_of hz
  obtain ⟨b, rg, hL, hJ, hT, hr⟩ := hI
  exact wpS_mono (oXlies hct hL x1 x2 x3 h3 (d := 39) (by omega)) (fun r M' h => ⟨_, (cQ_i rfl h).choose_spec, LI_c hL (JM_fr hL hJ h.2.1 oXlies_j) h.1 h.2.1 oXlies_p (by decide) hT hr⟩)
theorem xw_next {cd : Nat → Nat → Option aI} {z : Bool} (hz : ∀ m p i, cd0 z m p = some i → cd m p = some i) {q : Nat} {M : aM} (hI : LI q M) (x1 : Int32) : wpS cd (39, [], 134, 0, la 0 [.inr (.inr (some 0)), .inl x1], [], M) (fun r M' => ∃ x, r = some (.inl x) ∧ LI q M') := by
  have hct := hc_of hz
  obtain ⟨b, rg, hL, hJ, hT, hr⟩ := hI
  exact wpS_mono (oXnext hct hL x1 (d := 39) (by omega)) (fun r M' h => ⟨_, (cQ_i rfl h).choose_spec, LI_c hL (JM_fr hL hJ h.2.1 oXnext_j) h.1 h.2.1 oXnext_p (by decide) hT hr⟩)
theorem xw_trouble {cd : Nat → Nat → Option aI} {z : Bool} (hz : ∀ m p i, cd0 z m p = some i → cd m p = some i) {q : Nat} {M : aM} (hI : LI q M) : wpS cd (39, [], 136, 0, la 0 [.inr (.inr (some 0))], [], M) (fun r M' => ∃ x, r = some (.inl x) ∧ LI q M') := by
  have hct := hc_of hz
  obtain ⟨b, rg, hL, hJ, hT, hr⟩ := hI
  exact wpS_mono (oXtrouble hct hL (d := 39) (by omega)) (fun r M' h => ⟨_, (cQ_i rfl h).choose_spec, LI_c hL (JM_fr hL hJ h.2.1 oXtrouble_j) h.1 h.2.1 oXtrouble_p (by decide) hT hr⟩)
theorem xw_fault {cd : Nat → Nat → Option aI} {z : Bool} (hz : ∀ m p i, cd0 z m p = some i → cd m p = some i) {q : Nat} {M : aM} (hI : LI q M) : wpS cd (39, [], 106, 0, la 0 [.inr (.inr (some 0))], [], M) (fun r M' => ∃ x, r = some (.inl x) ∧ LI q M') := by
  have hct := hc_of hz
  obtain ⟨b, rg, hL, hJ, hT, hr⟩ := hI
  exact wpS_mono (oXfault hct hL (d := 39) (by omega)) (fun r M' h => ⟨_, (cQ_i rfl h).choose_spec, LI_c hL (JM_fr hL hJ h.2.1 oXfault_j) h.1 h.2.1 oXfault_p (by decide) hT hr⟩)
theorem xw_where {cd : Nat → Nat → Option aI} {z : Bool} (hz : ∀ m p i, cd0 z m p = some i → cd m p = some i) {q : Nat} {M : aM} (hI : LI q M) : wpS cd (39, [], 107, 0, la 0 [.inr (.inr (some 0))], [], M) (fun r M' => ∃ x, r = some (.inl x) ∧ LI q M') := by
  have hct := hc_of hz
  obtain ⟨b, rg, hL, hJ, hT, hr⟩ := hI
  exact wpS_mono (oXwhere hct hL (d := 39) (by omega)) (fun r M' h => ⟨_, (cQ_i rfl h).choose_spec, LI_c hL (JM_fr hL hJ h.2.1 oXwhere_j) h.1 h.2.1 oXwhere_p (by decide) hT hr⟩)
theorem xw_state {cd : Nat → Nat → Option aI} {z : Bool} (hz : ∀ m p i, cd0 z m p = some i → cd m p = some i) {q : Nat} {M : aM} (hI : LI q M) (x1 : Int32) : wpS cd (39, [], 111, 0, la 0 [.inr (.inr (some 0)), .inl x1], [], M) (fun r M' => ∃ x, r = some (.inl x) ∧ LI q M') := by
  have hct := hc_of hz
  obtain ⟨b, rg, hL, hJ, hT, hr⟩ := hI
  exact wpS_mono (oXstate hct hL x1 (d := 39) (by omega)) (fun r M' h => ⟨_, (cQ_i rfl h).choose_spec, LI_c hL (JM_fr hL hJ h.2.1 oXstate_j) h.1 h.2.1 oXstate_p (by decide) hT hr⟩)
theorem mw_inch {cd : Nat → Nat → Option aI} {z : Bool} (hz : ∀ m p i, cd0 z m p = some i → cd m p = some i) {q : Nat} {M : aM} (hI : LI q M) (x1 : Int32) (x2 : Int32) : wpS cd (39, [], 193, 0, la 0 [.inr (.inr (some 113)), .inl x1, .inl x2], [], M) (fun r M' => ∃ x, r = some (.inl x) ∧ LI q M') := by
  have hct := hc_of hz
  obtain ⟨b, rg, hL, hJ, hT, hr⟩ := hI
  exact wpS_mono (oMinch hct hL hJ x1 x2 (d := 39) (by omega)) (fun r M' h => ⟨_, (cQ_i rfl h).choose_spec, LI_c hL (JM_fr hL hJ h.2.1 oMinch_j) h.1 h.2.1 oMinch_p (by decide) hT hr⟩)
theorem mw_rows {cd : Nat → Nat → Option aI} {z : Bool} (hz : ∀ m p i, cd0 z m p = some i → cd m p = some i) {q : Nat} {M : aM} (hI : LI q M) (x1 : Int32) : wpS cd (39, [], 200, 0, la 0 [.inr (.inr (some 113)), .inl x1], [], M) (fun r M' => ∃ x, r = some (.inl x) ∧ LI q M') := by
  have hct := hc_of hz
  obtain ⟨b, rg, hL, hJ, hT, hr⟩ := hI
  exact wpS_mono (oMrows hct hL hJ x1 (d := 39) (by omega)) (fun r M' h => ⟨_, (cQ_i rfl h).choose_spec, LI_c hL (JM_fr hL hJ h.2.1 oMrows_j) h.1 h.2.1 oMrows_p (by decide) hT hr⟩)
theorem mw_cheapest {cd : Nat → Nat → Option aI} {z : Bool} (hz : ∀ m p i, cd0 z m p = some i → cd m p = some i) {q : Nat} {M : aM} (hI : LI q M) (x1 : Int32) (x2 : Int32) : wpS cd (39, [], 201, 0, la 0 [.inr (.inr (some 113)), .inl x1, .inl x2], [], M) (fun r M' => ∃ x, r = some (.inl x) ∧ LI q M') := by
  have hct := hc_of hz
  obtain ⟨b, rg, hL, hJ, hT, hr⟩ := hI
  exact wpS_mono (oMcheapest hct hL hJ x1 x2 (d := 39) (by omega)) (fun r M' h => ⟨_, (cQ_i rfl h).choose_spec, LI_c hL (JM_fr hL hJ h.2.1 oMcheapest_j) h.1 h.2.1 oMcheapest_p (by decide) hT hr⟩)
theorem mw_feedAt {cd : Nat → Nat → Option aI} {z : Bool} (hz : ∀ m p i, cd0 z m p = some i → cd m p = some i) {q : Nat} {M : aM} (hI : LI q M) (x1 : Int32) : wpS cd (39, [], 202, 0, la 0 [.inr (.inr (some 113)), .inl x1], [], M) (fun r M' => ∃ x, r = some (.inl x) ∧ LI q M') := by
  have hct := hc_of hz
  obtain ⟨b, rg, hL, hJ, hT, hr⟩ := hI
  exact wpS_mono (oMfeedAt hct hL hJ x1 (d := 39) (by omega)) (fun r M' h => ⟨_, (cQ_i rfl h).choose_spec, LI_c hL (JM_fr hL hJ h.2.1 oMfeedAt_j) h.1 h.2.1 oMfeedAt_p (by decide) hT hr⟩)
theorem mw_met {cd : Nat → Nat → Option aI} {z : Bool} (hz : ∀ m p i, cd0 z m p = some i → cd m p = some i) {q : Nat} {M : aM} (hI : LI q M) (x1 : Int32) : wpS cd (39, [], 205, 0, la 0 [.inr (.inr (some 113)), .inl x1], [], M) (fun r M' => ∃ x, r = some (.inl x) ∧ LI q M') := by
  have hct := hc_of hz
  obtain ⟨b, rg, hL, hJ, hT, hr⟩ := hI
  exact wpS_mono (oMmet hct hL hJ x1 (d := 39) (by omega)) (fun r M' h => ⟨_, (cQ_i rfl h).choose_spec, LI_c hL (JM_fr hL hJ h.2.1 oMmet_j) h.1 h.2.1 oMmet_p (by decide) hT hr⟩)
theorem mw_meet {cd : Nat → Nat → Option aI} {z : Bool} (hz : ∀ m p i, cd0 z m p = some i → cd m p = some i) {q : Nat} {M : aM} (hI : LI q M) : wpS cd (39, [], 206, 0, la 0 [.inr (.inr (some 113))], [], M) (fun r M' => ∃ x, r = some (.inl x) ∧ LI q M') := by
  have hct := hc_of hz
  obtain ⟨b, rg, hL, hJ, hT, hr⟩ := hI
  exact wpS_mono (oMmeet hct hL hJ (d := 39) (by omega)) (fun r M' h => ⟨_, (cQ_i rfl h).choose_spec, LI_c hL (JM_fr hL hJ h.2.1 oMmeet_j) h.1 h.2.1 oMmeet_p (by decide) hT hr⟩)
theorem mw_felt {cd : Nat → Nat → Option aI} {z : Bool} (hz : ∀ m p i, cd0 z m p = some i → cd m p = some i) {q : Nat} {M : aM} (hI : LI q M) (x1 : Int32) (x2 : Int32) : wpS cd (39, [], 207, 0, la 0 [.inr (.inr (some 113)), .inl x1, .inl x2], [], M) (fun r M' => ∃ x, r = some (.inl x) ∧ LI q M') := by
  have hct := hc_of hz
  obtain ⟨b, rg, hL, hJ, hT, hr⟩ := hI
  exact wpS_mono (oMfelt hct hL hJ x1 x2 (d := 39) (by omega)) (fun r M' h => ⟨_, (cQ_i rfl h).choose_spec, LI_c hL (JM_fr hL hJ h.2.1 oMfelt_j) h.1 h.2.1 oMfelt_p (by decide) hT hr⟩)
theorem mw_forget {cd : Nat → Nat → Option aI} {z : Bool} (hz : ∀ m p i, cd0 z m p = some i → cd m p = some i) {q : Nat} {M : aM} (hI : LI q M) : wpS cd (39, [], 208, 0, la 0 [.inr (.inr (some 113))], [], M) (fun r M' => ∃ x, r = some (.inl x) ∧ LI q M') := by
  have hct := hc_of hz
  obtain ⟨b, rg, hL, hJ, hT, hr⟩ := hI
  exact wpS_mono (oMforget hct hL hJ (d := 39) (by omega)) (fun r M' h => ⟨_, (cQ_i rfl h).choose_spec, LI_c hL (JM_fr hL hJ h.2.1 oMforget_j) h.1 h.2.1 oMforget_p (by decide) hT hr⟩)
theorem mw_causes {cd : Nat → Nat → Option aI} {z : Bool} (hz : ∀ m p i, cd0 z m p = some i → cd m p = some i) {q : Nat} {M : aM} (hI : LI q M) : wpS cd (39, [], 212, 0, la 0 [.inr (.inr (some 113))], [], M) (fun r M' => ∃ x, r = some (.inl x) ∧ LI q M') := by
  have hct := hc_of hz
  obtain ⟨b, rg, hL, hJ, hT, hr⟩ := hI
  exact wpS_mono (oMcauses hct hL hJ (d := 39) (by omega)) (fun r M' h => ⟨_, (cQ_i rfl h).choose_spec, LI_c hL (JM_fr hL hJ h.2.1 oMcauses_j) h.1 h.2.1 oMcauses_p (by decide) hT hr⟩)
theorem mw_cause {cd : Nat → Nat → Option aI} {z : Bool} (hz : ∀ m p i, cd0 z m p = some i → cd m p = some i) {q : Nat} {M : aM} (hI : LI q M) (x1 : Int32) (x2 : Int32) : wpS cd (39, [], 213, 0, la 0 [.inr (.inr (some 113)), .inl x1, .inl x2], [], M) (fun r M' => ∃ x, r = some (.inl x) ∧ LI q M') := by
  have hct := hc_of hz
  obtain ⟨b, rg, hL, hJ, hT, hr⟩ := hI
  exact wpS_mono (oMcause hct hL hJ x1 x2 (d := 39) (by omega)) (fun r M' h => ⟨_, (cQ_i rfl h).choose_spec, LI_c hL (JM_fr hL hJ h.2.1 oMcause_j) h.1 h.2.1 oMcause_p (by decide) hT hr⟩)
theorem mw_sure {cd : Nat → Nat → Option aI} {z : Bool} (hz : ∀ m p i, cd0 z m p = some i → cd m p = some i) {q : Nat} {M : aM} (hI : LI q M) (x1 : Int32) : wpS cd (39, [], 214, 0, la 0 [.inr (.inr (some 113)), .inl x1], [], M) (fun r M' => ∃ x, r = some (.inl x) ∧ LI q M') := by
  have hct := hc_of hz
  obtain ⟨b, rg, hL, hJ, hT, hr⟩ := hI
  exact wpS_mono (oMsure hct hL hJ x1 (d := 39) (by omega)) (fun r M' h => ⟨_, (cQ_i rfl h).choose_spec, LI_c hL (JM_fr hL hJ h.2.1 oMsure_j) h.1 h.2.1 oMsure_p (by decide) hT hr⟩)
theorem mw_off {cd : Nat → Nat → Option aI} {z : Bool} (hz : ∀ m p i, cd0 z m p = some i → cd m p = some i) {q : Nat} {M : aM} (hI : LI q M) (x1 : Int32) (x2 : Int32) (h2 : 0 ≤ x2.toInt ∧ x2.toInt ≤ 1) : wpS cd (39, [], 218, 0, la 0 [.inr (.inr (some 113)), .inl x1, .inl x2], [], M) (fun r M' => ∃ x, r = some (.inl x) ∧ LI q M') := by
  have hct := hc_of hz
  obtain ⟨b, rg, hL, hJ, hT, hr⟩ := hI
  exact wpS_mono (oMoff hct hL hJ x1 x2 h2 (d := 39) (by omega)) (fun r M' h => ⟨_, (cQ_i rfl h).choose_spec, LI_c hL (JM_fr hL hJ h.2.1 oMoff_j) h.1 h.2.1 oMoff_p (by decide) hT hr⟩)
theorem mw_ring {cd : Nat → Nat → Option aI} {z : Bool} (hz : ∀ m p i, cd0 z m p = some i → cd m p = some i) {q : Nat} {M : aM} (hI : LI q M) (x1 : Int32) : wpS cd (39, [], 222, 0, la 0 [.inr (.inr (some 113)), .inl x1], [], M) (fun r M' => ∃ x, r = some (.inl x) ∧ LI q M') := by
  have hct := hc_of hz
  obtain ⟨b, rg, hL, hJ, hT, hr⟩ := hI
  exact wpS_mono (oMring hct hL hJ x1 (d := 39) (by omega)) (fun r M' h => ⟨_, (cQ_i rfl h).choose_spec, LI_c hL (JM_fr hL hJ h.2.1 oMring_j) h.1 h.2.1 oMring_p (by decide) hT hr⟩)
theorem mw_sees {cd : Nat → Nat → Option aI} {z : Bool} (hz : ∀ m p i, cd0 z m p = some i → cd m p = some i) {q : Nat} {M : aM} (hI : LI q M) (x1 : Int32) : wpS cd (39, [], 223, 0, la 0 [.inr (.inr (some 113)), .inl x1], [], M) (fun r M' => ∃ x, r = some (.inl x) ∧ LI q M') := by
  have hct := hc_of hz
  obtain ⟨b, rg, hL, hJ, hT, hr⟩ := hI
  exact wpS_mono (oMsees hct hL hJ x1 (d := 39) (by omega)) (fun r M' h => ⟨_, (cQ_i rfl h).choose_spec, LI_c hL (JM_fr hL hJ h.2.1 oMsees_j) h.1 h.2.1 oMsees_p (by decide) hT hr⟩)
theorem mw_stroke {cd : Nat → Nat → Option aI} {z : Bool} (hz : ∀ m p i, cd0 z m p = some i → cd m p = some i) {q : Nat} {M : aM} (hI : LI q M) (x1 : Int32) : wpS cd (39, [], 232, 0, la 0 [.inr (.inr (some 113)), .inl x1], [], M) (fun r M' => ∃ x, r = some (.inl x) ∧ LI q M') := by
  have hct := hc_of hz
  obtain ⟨b, rg, hL, hJ, hT, hr⟩ := hI
  exact wpS_mono (oMstroke hct hL hJ x1 (d := 39) (by omega)) (fun r M' h => ⟨_, (cQ_i rfl h).choose_spec, LI_c hL (JM_fr hL hJ h.2.1 oMstroke_j) h.1 h.2.1 oMstroke_p (by decide) hT hr⟩)
theorem mw_about {cd : Nat → Nat → Option aI} {z : Bool} (hz : ∀ m p i, cd0 z m p = some i → cd m p = some i) {q : Nat} {M : aM} (hI : LI q M) : wpS cd (39, [], 234, 0, la 0 [.inr (.inr (some 113))], [], M) (fun r M' => ∃ x, r = some (.inl x) ∧ LI q M') := by
  have hct := hc_of hz
  obtain ⟨b, rg, hL, hJ, hT, hr⟩ := hI
  exact wpS_mono (oMabout hct hL hJ (d := 39) (by omega)) (fun r M' h => ⟨_, (cQ_i rfl h).choose_spec, LI_c hL (JM_fr hL hJ h.2.1 oMabout_j) h.1 h.2.1 oMabout_p (by decide) hT hr⟩)
theorem mw_wall {cd : Nat → Nat → Option aI} {z : Bool} (hz : ∀ m p i, cd0 z m p = some i → cd m p = some i) {q : Nat} {M : aM} (hI : LI q M) (x1 : Int32) (x2 : Int32) (x3 : Int32) : wpS cd (39, [], 235, 0, la 0 [.inr (.inr (some 113)), .inl x1, .inl x2, .inl x3], [], M) (fun r M' => ∃ x, r = some (.inl x) ∧ LI q M') := by
  have hct := hc_of hz
  obtain ⟨b, rg, hL, hJ, hT, hr⟩ := hI
  exact wpS_mono (oMwall hct hL hJ x1 x2 x3 (d := 39) (by omega)) (fun r M' h => ⟨_, (cQ_i rfl h).choose_spec, LI_c hL (JM_fr hL hJ h.2.1 oMwall_j) h.1 h.2.1 oMwall_p (by decide) hT hr⟩)
theorem mw_clear {cd : Nat → Nat → Option aI} {z : Bool} (hz : ∀ m p i, cd0 z m p = some i → cd m p = some i) {q : Nat} {M : aM} (hI : LI q M) : wpS cd (39, [], 236, 0, la 0 [.inr (.inr (some 113))], [], M) (fun r M' => ∃ x, r = some (.inl x) ∧ LI q M') := by
  have hct := hc_of hz
  obtain ⟨b, rg, hL, hJ, hT, hr⟩ := hI
  exact wpS_mono (oMclear hct hL hJ (d := 39) (by omega)) (fun r M' h => ⟨_, (cQ_i rfl h).choose_spec, LI_c hL (JM_fr hL hJ h.2.1 oMclear_j) h.1 h.2.1 oMclear_p (by decide) hT hr⟩)
theorem mw_trouble {cd : Nat → Nat → Option aI} {z : Bool} (hz : ∀ m p i, cd0 z m p = some i → cd m p = some i) {q : Nat} {M : aM} (hI : LI q M) : wpS cd (39, [], 242, 0, la 0 [.inr (.inr (some 113))], [], M) (fun r M' => ∃ x, r = some (.inl x) ∧ LI q M') := by
  have hct := hc_of hz
  obtain ⟨b, rg, hL, hJ, hT, hr⟩ := hI
  exact wpS_mono (oMtrouble hct hL hJ (d := 39) (by omega)) (fun r M' h => ⟨_, (cQ_i rfl h).choose_spec, LI_c hL (JM_fr hL hJ h.2.1 oMtrouble_j) h.1 h.2.1 oMtrouble_p (by decide) hT hr⟩)
theorem mw_fault {cd : Nat → Nat → Option aI} {z : Bool} (hz : ∀ m p i, cd0 z m p = some i → cd m p = some i) {q : Nat} {M : aM} (hI : LI q M) : wpS cd (39, [], 182, 0, la 0 [.inr (.inr (some 113))], [], M) (fun r M' => ∃ x, r = some (.inl x) ∧ LI q M') := by
  have hct := hc_of hz
  obtain ⟨b, rg, hL, hJ, hT, hr⟩ := hI
  exact wpS_mono (oMfault hct hL hJ (d := 39) (by omega)) (fun r M' h => ⟨_, (cQ_i rfl h).choose_spec, LI_c hL (JM_fr hL hJ h.2.1 oMfault_j) h.1 h.2.1 oMfault_p (by decide) hT hr⟩)
theorem mw_where {cd : Nat → Nat → Option aI} {z : Bool} (hz : ∀ m p i, cd0 z m p = some i → cd m p = some i) {q : Nat} {M : aM} (hI : LI q M) : wpS cd (39, [], 183, 0, la 0 [.inr (.inr (some 113))], [], M) (fun r M' => ∃ x, r = some (.inl x) ∧ LI q M') := by
  have hct := hc_of hz
  obtain ⟨b, rg, hL, hJ, hT, hr⟩ := hI
  exact wpS_mono (oMwhere hct hL hJ (d := 39) (by omega)) (fun r M' h => ⟨_, (cQ_i rfl h).choose_spec, LI_c hL (JM_fr hL hJ h.2.1 oMwhere_j) h.1 h.2.1 oMwhere_p (by decide) hT hr⟩)
theorem mw_state {cd : Nat → Nat → Option aI} {z : Bool} (hz : ∀ m p i, cd0 z m p = some i → cd m p = some i) {q : Nat} {M : aM} (hI : LI q M) (x1 : Int32) : wpS cd (39, [], 194, 0, la 0 [.inr (.inr (some 113)), .inl x1], [], M) (fun r M' => ∃ x, r = some (.inl x) ∧ LI q M') := by
  have hct := hc_of hz
  obtain ⟨b, rg, hL, hJ, hT, hr⟩ := hI
  exact wpS_mono (oMstate hct hL hJ x1 (d := 39) (by omega)) (fun r M' h => ⟨_, (cQ_i rfl h).choose_spec, LI_c hL (JM_fr hL hJ h.2.1 oMstate_j) h.1 h.2.1 oMstate_p (by decide) hT hr⟩)
theorem mw_led {cd : Nat → Nat → Option aI} {z : Bool} (hz : ∀ m p i, cd0 z m p = some i → cd m p = some i) {q : Nat} {M : aM} (hI : LI q M) (x1 : Int32) : wpS cd (39, [], 241, 0, la 0 [.inr (.inr (some 113)), .inl x1], [], M) (fun r M' => ∃ x, r = some (.inl x) ∧ LI q M') := by
  have hct := hc_of hz
  obtain ⟨b, rg, hL, hJ, hT, hr⟩ := hI
  exact wpS_mono (oMled hct hL hJ x1 (d := 39) (by omega)) (fun r M' h => ⟨_, (cQ_i rfl h).choose_spec, LI_c hL (JM_fr hL hJ h.2.1 oMled_j) h.1 h.2.1 oMled_p (by decide) hT hr⟩)
theorem mw_rod {cd : Nat → Nat → Option aI} {z : Bool} (hz : ∀ m p i, cd0 z m p = some i → cd m p = some i) {q : Nat} {M : aM} (hI : LI q M) (x1 : Int32) (h1 : 0 ≤ x1.toInt ∧ x1.toInt ≤ 1) : wpS cd (39, [], 190, 0, la 0 [.inr (.inr (some 113)), .inl x1], [], M) (fun r M' => ∃ x, r = some (.inl x) ∧ LI q M') := by
  have hct := hc_of hz
  obtain ⟨b, rg, hL, hJ, hT, hr⟩ := hI
  rcases hJ.2.1 with hu | ⟨u, hu, hj⟩
  · exact wpS_mono (oMrod_0 hct hL hJ hu x1 h1 (d := 39) (by omega)) (fun r M' h => ⟨_, (cQ_i rfl h).choose_spec, LI_c hL (JM_fr hL hJ h.2.1 oMrod_0_j) h.1 h.2.1 oMrod_0_p (by decide) hT hr⟩)
  · refine wpS_mono (oMrod_1 hct hL hJ hu hj x1 h1 (d := 39) (by omega)) (fun r M' h => ?_)
    obtain ⟨x, hx⟩ := cQ_i rfl h
    refine ⟨x, hx, ?_⟩
    obtain ⟨h1, h2, a, ha, hp⟩ := h
    have ha := List.mem_singleton.mp ha
    subst ha
    have hn : a_n M' = a_n M := h2.1.1
    have e1 := hp.2 ((687, 7), .inl (0, 0)) (List.mem_of_getElem? (i := 1) rfl) 115 (by rw [hn]; exact lo_n hL (by decide)) (rg_at hL (by decide) (fun b => by cases b <;> rfl))
    have e2 := hp.2 ((13, 31), .inl (0, 0)) (List.mem_of_getElem? (i := 2) rfl) 113 (by rw [hn]; exact lo_n hL (by decide)) (rg_at hL (by decide) (fun b => by cases b <;> rfl))
    have e1 : 0 ≤ dnM M' ∧ dnM M' ≤ 0 := e1
    have e2 : 0 ≤ (a_I M' 113 31).toInt ∧ (a_I M' 113 31).toInt ≤ 0 := e2
    have hin := (JS_in hL hj).1
    exact LI_c hL (JM_dn hL hJ h2 (by decide) hu (by omega) (by omega) e2.2) h1 h2 oMrod_1_p (by decide) hT hr
theorem mw_drill {cd : Nat → Nat → Option aI} {z : Bool} (hz : ∀ m p i, cd0 z m p = some i → cd m p = some i) {q : Nat} {M : aM} (hI : LI q M) (x1 : Int32) : wpS cd (39, [], 191, 0, la 0 [.inr (.inr (some 113)), .inl x1], [], M) (fun r M' => ∃ x, r = some (.inl x) ∧ LI q M') := by
  have hct := hc_of hz
  obtain ⟨b, rg, hL, hJ, hT, hr⟩ := hI
  rcases hJ.2.1 with hu | ⟨u, hu, hj⟩
  · exact wpS_mono (oMdrill_0 hct hL hJ hu x1 (d := 39) (by omega)) (fun r M' h => ⟨_, (cQ_i rfl h).choose_spec, LI_c hL (JM_fr hL hJ h.2.1 oMdrill_0_j) h.1 h.2.1 oMdrill_0_p (by decide) hT hr⟩)
  · have hbl := LB_bl hL
    have hin := (JS_in hL hj).1
    by_cases c : 1 ≤ (a_I M 113 31).toInt
    · exact wpS_mono (oMdrill_b hct hL hJ hu hj ⟨c, hbl.2⟩ x1 (d := 39) (by omega)) (fun r M' h => ⟨_, (cQ_i rfl h).choose_spec, LI_c hL (JM_fr hL hJ h.2.1 oMdrill_b_j) h.1 h.2.1 oMdrill_b_p (by decide) hT hr⟩)
    · refine wpS_mono (oMdrill hct hL hJ hu hj (vl_dr hin.1 hin.2) rfl x1 (d := 39) (by omega)) (fun r M' h => ?_)
      obtain ⟨x, hx⟩ := cQ_i rfl h
      refine ⟨x, hx, ?_⟩
      obtain ⟨h1, h2, a, ha, hp⟩ := h
      have ha := List.mem_singleton.mp ha
      subst ha
      have hn : a_n M' = a_n M := h2.1.1
      have e1 := hp.2 ((687, 7), .inl (0, (a_I M u 0).toInt)) (List.mem_of_getElem? (i := 1) rfl) 115 (by rw [hn]; exact lo_n hL (by decide)) (rg_at hL (by decide) (fun b => by cases b <;> rfl))
      have e1 : 0 ≤ dnM M' ∧ dnM M' ≤ (a_I M u 0).toInt := e1
      have e2 : a_I M' 113 31 = a_I M 113 31 := Fr_I h2 (rg_at hL (by decide) (fun b => by cases b <;> rfl)) rfl
      exact LI_c hL (JM_dn hL hJ h2 rfl hu (by omega) e1.2 (by rw [e2]; omega)) h1 h2 (oMdrill_p _) rfl hT hr
theorem mw_odds {cd : Nat → Nat → Option aI} {z : Bool} (hz : ∀ m p i, cd0 z m p = some i → cd m p = some i) {q : Nat} {M : aM} (hI : LI q M) (x1 : Int32) (x2 : Int32) : wpS cd (39, [], 199, 0, la 0 [.inr (.inr (some 113)), .inl x1, .inl x2], [], M) (fun r M' => ∃ x, r = some (.inl x) ∧ LI q M') := by
  have hct := hc_of hz
  obtain ⟨b, rg, hL, hJ, hT, hr⟩ := hI
  rcases hJ.2.1 with hu | ⟨u, hu, hj⟩
  · exact wpS_mono (oModds_0 hct hL hJ hu x1 x2 (d := 39) (by omega)) (fun r M' h => ⟨_, (cQ_i rfl h).choose_spec, LI_c hL (JM_fr hL hJ h.2.1 oModds_0_j) h.1 h.2.1 oModds_0_p (by decide) hT hr⟩)
  · exact wpS_mono (oModds hct hL hJ hu hj x1 x2 (d := 39) (by omega)) (fun r M' h => ⟨_, (cQ_i rfl h).choose_spec, LI_c hL (JM_fr hL hJ h.2.1 oModds_j) h.1 h.2.1 oModds_p (by decide) hT hr⟩)
theorem mw_fewest {cd : Nat → Nat → Option aI} {z : Bool} (hz : ∀ m p i, cd0 z m p = some i → cd m p = some i) {q : Nat} {M : aM} (hI : LI q M) (x1 : Int32) (x2 : Int32) : wpS cd (39, [], 231, 0, la 0 [.inr (.inr (some 113)), .inl x1, .inl x2], [], M) (fun r M' => ∃ x, r = some (.inl x) ∧ LI q M') := by
  have hct := hc_of hz
  obtain ⟨b, rg, hL, hJ, hT, hr⟩ := hI
  rcases hJ.2.1 with hu | ⟨u, hu, hj⟩
  · exact wpS_mono (oMfewest_0 hct hL hJ hu x1 x2 (d := 39) (by omega)) (fun r M' h => ⟨_, (cQ_i rfl h).choose_spec, LI_c hL (JM_fr hL hJ h.2.1 oMfewest_0_j) h.1 h.2.1 oMfewest_0_p (by decide) hT hr⟩)
  · have hd9 := hJ.1
    by_cases c1 : dnM M ≤ 2
    · exact wpS_mono (oMfewest_s hct hL hJ hu hj ⟨hd9.1, c1⟩ x1 x2 (d := 39) (by omega)) (fun r M' h => ⟨_, (cQ_i rfl h).choose_spec, LI_c hL (JM_fr hL hJ h.2.1 oMfewest_s_j) h.1 h.2.1 oMfewest_s_p (by decide) hT hr⟩)
    · by_cases c2 : dnM M = 3
      · exact wpS_mono (oMfewest_3 hct hL hJ hu hj c2 x1 x2 (d := 39) (by omega)) (fun r M' h => ⟨_, (cQ_i rfl h).choose_spec, LI_c hL (JM_fr hL hJ h.2.1 oMfewest_3_j) h.1 h.2.1 oMfewest_3_p (by decide) hT hr⟩)
      · exact wpS_mono (oMfewest hct hL hJ hu hj (vl_fw (v := dnM M) (by omega) hd9.2) rfl x1 x2 (d := 39) (by omega)) (fun r M' h => ⟨_, (cQ_i rfl h).choose_spec, LI_c hL (JM_fr hL hJ h.2.1 (oMfewest_j _)) h.1 h.2.1 (oMfewest_p _) rfl hT hr⟩)
theorem mw_blow {cd : Nat → Nat → Option aI} {z : Bool} (hz : ∀ m p i, cd0 z m p = some i → cd m p = some i) {q : Nat} {M : aM} (hI : LI q M) (x1 : Int32) (x2 : Int32) (x3 : Int32) : wpS cd (39, [], 226, 0, la 0 [.inr (.inr (some 113)), .inl x1, .inl x2, .inl x3], [], M) (fun r M' => ∃ x, r = some (.inl x) ∧ LI q M') := by
  obtain ⟨b, rg, hL, hJ, hT, hr⟩ := hI
  have key : ∀ M', HQ b rg msBl M M' → LI q M' := fun M' h => LI_c hL h.1.2.1 h.1.1.1 h.1.2.2 (by decide +kernel) (by decide) hT hr
  rcases hJ.2.1 with hu | ⟨u, hu, hj⟩
  · refine wpS_mono (r_blow0 hz hL hJ x1 x2 x3 (nvO_A (LB_nv (τ := id) hL) hu) (d := 38)) (fun r M' h => ?_)
    obtain ⟨y, y1, y2⟩ := h
    exact ⟨y, y1, key M' y2⟩
  · refine wpS_mono (r_blow1 hz hL hJ x1 x2 x3 hu (d := 36)) (fun r M' h => ?_)
    obtain ⟨y, y1, y2⟩ := h
    exact ⟨y, y1, key M' y2⟩
theorem mw_heat {cd : Nat → Nat → Option aI} {z : Bool} (hz : ∀ m p i, cd0 z m p = some i → cd m p = some i) {q : Nat} {M : aM} (hI : LI q M) : wpS cd (39, [], 233, 0, la 0 [.inr (.inr (some 113))], [], M) (fun r M' => ∃ x, r = some (.inl x) ∧ LI q M') := by
  obtain ⟨b, rg, hL, hJ, hT, hr⟩ := hI
  have key : ∀ M', HQ b rg msBl M M' → LI q M' := fun M' h => LI_c hL h.1.2.1 h.1.1.1 h.1.2.2 (by decide +kernel) (by decide) hT hr
  rcases hJ.2.1 with hu | ⟨u, hu, hj⟩
  · refine wpS_mono (r_heat0 hz hL hJ (nvO_A (LB_nv (τ := id) hL) hu) (d := 38)) (fun r M' h => ?_)
    obtain ⟨y, y1, y2⟩ := h
    exact ⟨y, y1, key M' y2⟩
  · refine wpS_mono (r_heat1 hz hL hJ hu (d := 36)) (fun r M' h => ?_)
    obtain ⟨y, y1, y2⟩ := h
    exact ⟨y, y1, key M' y2⟩
theorem mw_lies {cd : Nat → Nat → Option aI} {z : Bool} (hz : ∀ m p i, cd0 z m p = some i → cd m p = some i) {q : Nat} {M : aM} (hI : LI q M) (x1 : Int32) (x2 : Int32) (x3 : Int32) : wpS cd (39, [], 239, 0, la 0 [.inr (.inr (some 113)), .inl x1, .inl x2, .inl x3], [], M) (fun r M' => ∃ x, r = some (.inl x) ∧ LI q M') := by
  obtain ⟨b, rg, hL, hJ, hT, hr⟩ := hI
  have key : ∀ M', HQ b rg msSp M M' → LI q M' := fun M' h => LI_c hL h.1.2.1 h.1.1.1 h.1.2.2 (by decide +kernel) (by decide) hT hr
  rcases hJ.2.1 with hu | ⟨u, hu, hj⟩
  · refine wpS_mono (r_lies0 hz hL hJ x1 x2 x3 (nvO_A (LB_nv (τ := id) hL) hu) (d := 38)) (fun r M' h => ?_)
    obtain ⟨y, y1, y2, _⟩ := h
    exact ⟨y, y1, key M' y2⟩
  · refine wpS_mono (r_lies1 hz hL hJ x1 x2 x3 hu (d := 37)) (fun r M' h => ?_)
    obtain ⟨y, y1, y2, _⟩ := h
    exact ⟨y, y1, key M' y2⟩
theorem mw_next {cd : Nat → Nat → Option aI} {z : Bool} (hz : ∀ m p i, cd0 z m p = some i → cd m p = some i) {q : Nat} {M : aM} (hI : LI q M) (x1 : Int32) : wpS cd (39, [], 240, 0, la 0 [.inr (.inr (some 113)), .inl x1], [], M) (fun r M' => ∃ x, r = some (.inl x) ∧ LI q M') := by
  obtain ⟨b, rg, hL, hJ, hT, hr⟩ := hI
  have key : ∀ M', HQ b rg msSp M M' → LI q M' := fun M' h => LI_c hL h.1.2.1 h.1.1.1 h.1.2.2 (by decide +kernel) (by decide) hT hr
  rcases hJ.2.1 with hu | ⟨u, hu, hj⟩
  · refine wpS_mono (r_next0 hz hL hJ x1 (nvO_A (LB_nv (τ := id) hL) hu) (d := 38)) (fun r M' h => ?_)
    obtain ⟨y, y1, y2, _⟩ := h
    exact ⟨y, y1, key M' y2⟩
  · refine wpS_mono (r_next1 hz hL hJ x1 hu (d := 37)) (fun r M' h => ?_)
    obtain ⟨y, y1, y2, _⟩ := h
    exact ⟨y, y1, key M' y2⟩

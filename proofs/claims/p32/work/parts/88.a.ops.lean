/-! Each call by its contract: printed by wip/gen/ops88.py -/
theorem gE_n : gE [] [] := ⟨rfl, fun j b z h => by simp at h⟩
theorem gE_c {b : Int × Int} {z : Int} {E : yE} {ρ : List Int} (h : b.1 ≤ z ∧ z ≤ b.2) (hE : gE E ρ) : gE (b :: E) (z :: ρ) := ⟨by show E.length + 1 = ρ.length + 1; rw [hE.1], fun j b' z' e1 e2 => by
  cases j with
  | zero => cases e1; cases e2; exact h
  | succ j => exact hE.2 j b' z' e1 e2⟩
theorem gG_n {rg : Nat → Nat} {n : Nat} : gG rg n [] [] := ⟨rfl, fun j b z h => by simp at h⟩
theorem gG_c {rg : Nat → Nat} {n r a : Nat} {G τ : List Nat} (h : r < aSB ∧ a < n ∧ rg a = r) (hG : gG rg n G τ) : gG rg n (r :: G) (a :: τ) := ⟨by show G.length + 1 = τ.length + 1; rw [hG.1], fun j r' a' e1 e2 => by
  cases j with
  | zero => cases e1; cases e2; exact Or.inl h
  | succ j => exact hG.2 j r' a' e1 e2⟩
theorem gB_n {ρ : List Int} {τ : List Nat} {M : aM} : gB [] ρ τ M := fun q hq => by cases hq
theorem ent_gam {rg : Nat → Nat} {M : aM} {c : yC} {mid d : Nat} {s : List yV} {As : List aV} {ρ : List Int} {τ : List Nat} (hc : c.1.2.2.2 = [(mid, 0, yla 0 s, [])]) (hE : gE c.1.1 ρ) (h0 : ρ[0]? = some 0) (hG : gG rg (a_n M) c.1.2.1 τ) (hB : gB c.1.2.2.1 ρ τ M) (hT9 : hT RR rg M) (hd : c.2.2.2 ≤ d) (hK : gK ρ τ s As) (hn : ynl s = true) : gam RR (msL c.2.2.1) rg M c.2.2.2 c.1 ρ τ (d, [], mid, 0, la 0 As, [], M) := by
  refine ⟨⟨hE, hG, h0⟩, hB, ⟨hT9, Fr_rf⟩, hd, ?_⟩
  rw [hc]
  exact ⟨⟨rfl, rfl, gL_la hK hn, trivial⟩, trivial⟩
/-- what any call but shop may write: all but the reference's shop -/
def msT (r k : Nat) : Bool := !((Nat.beq r 12 || Nat.beq r 643) || (Nat.beq r 13 && Nat.beq k 3))
theorem lo_n {b : Bool} {rg : Nat → Nat} {M : aM} (h : LB b rg M) {a : Nat} (ha : a < 137) : a < a_n M := Nat.lt_of_lt_of_le ha h.2.2.2.2.1
theorem iz {x : Int} : x = x + 0 := by omega

theorem oXrod {cd : Nat → Nat → Option aI} (hct : ∀ m p o, ct m p = some o → cd m p = some (semO o)) {b : Bool} {rg : Nat → Nat} {M : aM} (hL : LB b rg M) (x1 : Int32) (h1 : 0 ≤ x1.toInt ∧ x1.toInt ≤ 1) {d : Nat} (hd : 2 ≤ d) : wpS cd (d, [], 108, 0, la 0 [.inr (.inr (some 0)), .inl x1], [], M) (cQ RR rg M [0, x1.toInt] ct_Xrod) :=
  cc_Xrod hct (LB_sgl hL) (ms := msT) (by decide) [0, x1.toInt] [0] _ Fr_rf (ent_gam (s := [.inr (.inr (some 0)), .inl (1, 0)]) rfl (gE_c ⟨by decide, by decide⟩ (gE_c h1 gE_n)) rfl (gG_c ⟨by decide, lo_n hL (by decide), rg_at hL (by decide) (fun b => by cases b <;> rfl)⟩ gG_n) gB_n hL.1 hd ⟨rfl, ⟨⟨_, rfl, iz⟩, trivial⟩⟩ rfl)
theorem oXrod_p : ∀ b : Bool, protB b ct_Xrod.2.2.1 = true := by decide +kernel
theorem oXrod_j : protJ ct_Xrod.2.2.1 = true := by decide
theorem oXdrill {cd : Nat → Nat → Option aI} (hct : ∀ m p o, ct m p = some o → cd m p = some (semO o)) {b : Bool} {rg : Nat → Nat} {M : aM} (hL : LB b rg M) (x1 : Int32) {d : Nat} (hd : 4 ≤ d) : wpS cd (d, [], 109, 0, la 0 [.inr (.inr (some 0)), .inl x1], [], M) (cQ RR rg M [0, x1.toInt] ct_Xdrill) :=
  cc_Xdrill hct (LB_sgl hL) (ms := msT) (by decide) (cc_adv17 hct (LB_sgl hL) (by decide)) [0, x1.toInt] [0] _ Fr_rf (ent_gam (s := [.inr (.inr (some 0)), .inl (1, 0)]) rfl (gE_c ⟨by decide, by decide⟩ (gE_c (i32_bd x1) gE_n)) rfl (gG_c ⟨by decide, lo_n hL (by decide), rg_at hL (by decide) (fun b => by cases b <;> rfl)⟩ gG_n) gB_n hL.1 hd ⟨rfl, ⟨⟨_, rfl, iz⟩, trivial⟩⟩ rfl)
theorem oXdrill_p : ∀ b : Bool, protB b ct_Xdrill.2.2.1 = true := by decide +kernel
theorem oXdrill_j : protJ ct_Xdrill.2.2.1 = true := by decide
theorem oXinch {cd : Nat → Nat → Option aI} (hct : ∀ m p o, ct m p = some o → cd m p = some (semO o)) {b : Bool} {rg : Nat → Nat} {M : aM} (hL : LB b rg M) (x1 x2 : Int32) {d : Nat} (hd : 1 ≤ d) : wpS cd (d, [], 110, 0, la 0 [.inr (.inr (some 0)), .inl x1, .inl x2], [], M) (cQ RR rg M [0, x1.toInt, x2.toInt] ct_Xinch) :=
  cc_Xinch hct (LB_sgl hL) (ms := msT) (by decide) [0, x1.toInt, x2.toInt] [0] _ Fr_rf (ent_gam (s := [.inr (.inr (some 0)), .inl (1, 0), .inl (2, 0)]) rfl (gE_c ⟨by decide, by decide⟩ (gE_c (i32_bd x1) (gE_c (i32_bd x2) gE_n))) rfl (gG_c ⟨by decide, lo_n hL (by decide), rg_at hL (by decide) (fun b => by cases b <;> rfl)⟩ gG_n) gB_n hL.1 hd ⟨rfl, ⟨⟨_, rfl, iz⟩, ⟨⟨_, rfl, iz⟩, trivial⟩⟩⟩ rfl)
theorem oXinch_p : ∀ b : Bool, protB b ct_Xinch.2.2.1 = true := by decide +kernel
theorem oXinch_j : protJ ct_Xinch.2.2.1 = true := by decide
theorem oXodds {cd : Nat → Nat → Option aI} (hct : ∀ m p o, ct m p = some o → cd m p = some (semO o)) {b : Bool} {rg : Nat → Nat} {M : aM} (hL : LB b rg M) (x1 x2 : Int32) {d : Nat} (hd : 13 ≤ d) : wpS cd (d, [], 112, 0, la 0 [.inr (.inr (some 0)), .inl x1, .inl x2], [], M) (cQ RR rg M [0, x1.toInt, x2.toInt] ct_Xodds) :=
  cc_Xodds hct (LB_sgl hL) (ms := msT) (by decide) (cc_adv hct (LB_sgl hL) (by decide)) [0, x1.toInt, x2.toInt] [0] _ Fr_rf (ent_gam (s := [.inr (.inr (some 0)), .inl (1, 0), .inl (2, 0)]) rfl (gE_c ⟨by decide, by decide⟩ (gE_c (i32_bd x1) (gE_c (i32_bd x2) gE_n))) rfl (gG_c ⟨by decide, lo_n hL (by decide), rg_at hL (by decide) (fun b => by cases b <;> rfl)⟩ gG_n) gB_n hL.1 hd ⟨rfl, ⟨⟨_, rfl, iz⟩, ⟨⟨_, rfl, iz⟩, trivial⟩⟩⟩ rfl)
theorem oXodds_p : ∀ b : Bool, protB b ct_Xodds.2.2.1 = true := by decide +kernel
theorem oXodds_j : protJ ct_Xodds.2.2.1 = true := by decide
theorem oXrows {cd : Nat → Nat → Option aI} (hct : ∀ m p o, ct m p = some o → cd m p = some (semO o)) {b : Bool} {rg : Nat → Nat} {M : aM} (hL : LB b rg M) (x1 : Int32) {d : Nat} (hd : 1 ≤ d) : wpS cd (d, [], 113, 0, la 0 [.inr (.inr (some 0)), .inl x1], [], M) (cQ RR rg M [0, x1.toInt] ct_Xrows) :=
  cc_Xrows hct (LB_sgl hL) (ms := msT) (by decide) [0, x1.toInt] [0] _ Fr_rf (ent_gam (s := [.inr (.inr (some 0)), .inl (1, 0)]) rfl (gE_c ⟨by decide, by decide⟩ (gE_c (i32_bd x1) gE_n)) rfl (gG_c ⟨by decide, lo_n hL (by decide), rg_at hL (by decide) (fun b => by cases b <;> rfl)⟩ gG_n) gB_n hL.1 hd ⟨rfl, ⟨⟨_, rfl, iz⟩, trivial⟩⟩ rfl)
theorem oXrows_p : ∀ b : Bool, protB b ct_Xrows.2.2.1 = true := by decide +kernel
theorem oXrows_j : protJ ct_Xrows.2.2.1 = true := by decide
theorem oXcheapest {cd : Nat → Nat → Option aI} (hct : ∀ m p o, ct m p = some o → cd m p = some (semO o)) {b : Bool} {rg : Nat → Nat} {M : aM} (hL : LB b rg M) (x1 x2 : Int32) {d : Nat} (hd : 11 ≤ d) : wpS cd (d, [], 114, 0, la 0 [.inr (.inr (some 0)), .inl x1, .inl x2], [], M) (cQ RR rg M [0, x1.toInt, x2.toInt] ct_Xcheapest) :=
  cc_Xcheapest hct (LB_sgl hL) (ms := msT) (by decide) (cc_adv hct (LB_sgl hL) (by decide)) [0, x1.toInt, x2.toInt] [0] _ Fr_rf (ent_gam (s := [.inr (.inr (some 0)), .inl (1, 0), .inl (2, 0)]) rfl (gE_c ⟨by decide, by decide⟩ (gE_c (i32_bd x1) (gE_c (i32_bd x2) gE_n))) rfl (gG_c ⟨by decide, lo_n hL (by decide), rg_at hL (by decide) (fun b => by cases b <;> rfl)⟩ gG_n) gB_n hL.1 hd ⟨rfl, ⟨⟨_, rfl, iz⟩, ⟨⟨_, rfl, iz⟩, trivial⟩⟩⟩ rfl)
theorem oXcheapest_p : ∀ b : Bool, protB b ct_Xcheapest.2.2.1 = true := by decide +kernel
theorem oXcheapest_j : protJ ct_Xcheapest.2.2.1 = true := by decide
theorem oXfeedAt {cd : Nat → Nat → Option aI} (hct : ∀ m p o, ct m p = some o → cd m p = some (semO o)) {b : Bool} {rg : Nat → Nat} {M : aM} (hL : LB b rg M) (x1 : Int32) {d : Nat} (hd : 0 ≤ d) : wpS cd (d, [], 115, 0, la 0 [.inr (.inr (some 0)), .inl x1], [], M) (cQ RR rg M [0, x1.toInt] ct_XfeedAt) :=
  cc_XfeedAt hct (LB_sgl hL) (ms := msT) (by decide) [0, x1.toInt] [0] _ Fr_rf (ent_gam (s := [.inr (.inr (some 0)), .inl (1, 0)]) rfl (gE_c ⟨by decide, by decide⟩ (gE_c (i32_bd x1) gE_n)) rfl (gG_c ⟨by decide, lo_n hL (by decide), rg_at hL (by decide) (fun b => by cases b <;> rfl)⟩ gG_n) gB_n hL.1 hd ⟨rfl, ⟨⟨_, rfl, iz⟩, trivial⟩⟩ rfl)
theorem oXfeedAt_p : ∀ b : Bool, protB b ct_XfeedAt.2.2.1 = true := by decide +kernel
theorem oXfeedAt_j : protJ ct_XfeedAt.2.2.1 = true := by decide
theorem oXmet {cd : Nat → Nat → Option aI} (hct : ∀ m p o, ct m p = some o → cd m p = some (semO o)) {b : Bool} {rg : Nat → Nat} {M : aM} (hL : LB b rg M) (x1 : Int32) {d : Nat} (hd : 5 ≤ d) : wpS cd (d, [], 116, 0, la 0 [.inr (.inr (some 0)), .inl x1], [], M) (cQ RR rg M [0, x1.toInt] ct_Xmet) :=
  cc_Xmet hct (LB_sgl hL) (ms := msT) (by decide) (cc_adv hct (LB_sgl hL) (by decide)) [0, x1.toInt] [0] _ Fr_rf (ent_gam (s := [.inr (.inr (some 0)), .inl (1, 0)]) rfl (gE_c ⟨by decide, by decide⟩ (gE_c (i32_bd x1) gE_n)) rfl (gG_c ⟨by decide, lo_n hL (by decide), rg_at hL (by decide) (fun b => by cases b <;> rfl)⟩ gG_n) gB_n hL.1 hd ⟨rfl, ⟨⟨_, rfl, iz⟩, trivial⟩⟩ rfl)
theorem oXmet_p : ∀ b : Bool, protB b ct_Xmet.2.2.1 = true := by decide +kernel
theorem oXmet_j : protJ ct_Xmet.2.2.1 = true := by decide
theorem oXmeet {cd : Nat → Nat → Option aI} (hct : ∀ m p o, ct m p = some o → cd m p = some (semO o)) {b : Bool} {rg : Nat → Nat} {M : aM} (hL : LB b rg M) {d : Nat} (hd : 5 ≤ d) : wpS cd (d, [], 117, 0, la 0 [.inr (.inr (some 0))], [], M) (cQ RR rg M [0] ct_Xmeet) :=
  cc_Xmeet hct (LB_sgl hL) (ms := msT) (by decide) (cc_adv hct (LB_sgl hL) (by decide)) [0] [0] _ Fr_rf (ent_gam (s := [.inr (.inr (some 0))]) rfl (gE_c ⟨by decide, by decide⟩ gE_n) rfl (gG_c ⟨by decide, lo_n hL (by decide), rg_at hL (by decide) (fun b => by cases b <;> rfl)⟩ gG_n) gB_n hL.1 hd ⟨rfl, trivial⟩ rfl)
theorem oXmeet_p : ∀ b : Bool, protB b ct_Xmeet.2.2.1 = true := by decide +kernel
theorem oXmeet_j : protJ ct_Xmeet.2.2.1 = true := by decide
theorem oXfelt {cd : Nat → Nat → Option aI} (hct : ∀ m p o, ct m p = some o → cd m p = some (semO o)) {b : Bool} {rg : Nat → Nat} {M : aM} (hL : LB b rg M) (x1 x2 : Int32) {d : Nat} (hd : 1 ≤ d) : wpS cd (d, [], 118, 0, la 0 [.inr (.inr (some 0)), .inl x1, .inl x2], [], M) (cQ RR rg M [0, x1.toInt, x2.toInt] ct_Xfelt) :=
  cc_Xfelt hct (LB_sgl hL) (ms := msT) (by decide) [0, x1.toInt, x2.toInt] [0] _ Fr_rf (ent_gam (s := [.inr (.inr (some 0)), .inl (1, 0), .inl (2, 0)]) rfl (gE_c ⟨by decide, by decide⟩ (gE_c (i32_bd x1) (gE_c (i32_bd x2) gE_n))) rfl (gG_c ⟨by decide, lo_n hL (by decide), rg_at hL (by decide) (fun b => by cases b <;> rfl)⟩ gG_n) gB_n hL.1 hd ⟨rfl, ⟨⟨_, rfl, iz⟩, ⟨⟨_, rfl, iz⟩, trivial⟩⟩⟩ rfl)
theorem oXfelt_p : ∀ b : Bool, protB b ct_Xfelt.2.2.1 = true := by decide +kernel
theorem oXfelt_j : protJ ct_Xfelt.2.2.1 = true := by decide
theorem oXforget {cd : Nat → Nat → Option aI} (hct : ∀ m p o, ct m p = some o → cd m p = some (semO o)) {b : Bool} {rg : Nat → Nat} {M : aM} (hL : LB b rg M) {d : Nat} (hd : 1 ≤ d) : wpS cd (d, [], 119, 0, la 0 [.inr (.inr (some 0))], [], M) (cQ RR rg M [0] ct_Xforget) :=
  cc_Xforget hct (LB_sgl hL) (ms := msT) (by decide) [0] [0] _ Fr_rf (ent_gam (s := [.inr (.inr (some 0))]) rfl (gE_c ⟨by decide, by decide⟩ gE_n) rfl (gG_c ⟨by decide, lo_n hL (by decide), rg_at hL (by decide) (fun b => by cases b <;> rfl)⟩ gG_n) gB_n hL.1 hd ⟨rfl, trivial⟩ rfl)
theorem oXforget_p : ∀ b : Bool, protB b ct_Xforget.2.2.1 = true := by decide +kernel
theorem oXforget_j : protJ ct_Xforget.2.2.1 = true := by decide
theorem oXcauses {cd : Nat → Nat → Option aI} (hct : ∀ m p o, ct m p = some o → cd m p = some (semO o)) {b : Bool} {rg : Nat → Nat} {M : aM} (hL : LB b rg M) {d : Nat} (hd : 6 ≤ d) : wpS cd (d, [], 120, 0, la 0 [.inr (.inr (some 0))], [], M) (cQ RR rg M [0] ct_Xcauses) :=
  cc_Xcauses hct (LB_sgl hL) (ms := msT) (by decide) (cc_adv hct (LB_sgl hL) (by decide)) [0] [0] _ Fr_rf (ent_gam (s := [.inr (.inr (some 0))]) rfl (gE_c ⟨by decide, by decide⟩ gE_n) rfl (gG_c ⟨by decide, lo_n hL (by decide), rg_at hL (by decide) (fun b => by cases b <;> rfl)⟩ gG_n) gB_n hL.1 hd ⟨rfl, trivial⟩ rfl)
theorem oXcauses_p : ∀ b : Bool, protB b ct_Xcauses.2.2.1 = true := by decide +kernel
theorem oXcauses_j : protJ ct_Xcauses.2.2.1 = true := by decide
theorem oXcause {cd : Nat → Nat → Option aI} (hct : ∀ m p o, ct m p = some o → cd m p = some (semO o)) {b : Bool} {rg : Nat → Nat} {M : aM} (hL : LB b rg M) (x1 x2 : Int32) {d : Nat} (hd : 6 ≤ d) : wpS cd (d, [], 121, 0, la 0 [.inr (.inr (some 0)), .inl x1, .inl x2], [], M) (cQ RR rg M [0, x1.toInt, x2.toInt] ct_Xcause) :=
  cc_Xcause hct (LB_sgl hL) (ms := msT) (by decide) (cc_adv hct (LB_sgl hL) (by decide)) [0, x1.toInt, x2.toInt] [0] _ Fr_rf (ent_gam (s := [.inr (.inr (some 0)), .inl (1, 0), .inl (2, 0)]) rfl (gE_c ⟨by decide, by decide⟩ (gE_c (i32_bd x1) (gE_c (i32_bd x2) gE_n))) rfl (gG_c ⟨by decide, lo_n hL (by decide), rg_at hL (by decide) (fun b => by cases b <;> rfl)⟩ gG_n) gB_n hL.1 hd ⟨rfl, ⟨⟨_, rfl, iz⟩, ⟨⟨_, rfl, iz⟩, trivial⟩⟩⟩ rfl)
theorem oXcause_p : ∀ b : Bool, protB b ct_Xcause.2.2.1 = true := by decide +kernel
theorem oXcause_j : protJ ct_Xcause.2.2.1 = true := by decide
theorem oXsure {cd : Nat → Nat → Option aI} (hct : ∀ m p o, ct m p = some o → cd m p = some (semO o)) {b : Bool} {rg : Nat → Nat} {M : aM} (hL : LB b rg M) (x1 : Int32) {d : Nat} (hd : 6 ≤ d) : wpS cd (d, [], 122, 0, la 0 [.inr (.inr (some 0)), .inl x1], [], M) (cQ RR rg M [0, x1.toInt] ct_Xsure) :=
  cc_Xsure hct (LB_sgl hL) (ms := msT) (by decide) (cc_adv hct (LB_sgl hL) (by decide)) [0, x1.toInt] [0] _ Fr_rf (ent_gam (s := [.inr (.inr (some 0)), .inl (1, 0)]) rfl (gE_c ⟨by decide, by decide⟩ (gE_c (i32_bd x1) gE_n)) rfl (gG_c ⟨by decide, lo_n hL (by decide), rg_at hL (by decide) (fun b => by cases b <;> rfl)⟩ gG_n) gB_n hL.1 hd ⟨rfl, ⟨⟨_, rfl, iz⟩, trivial⟩⟩ rfl)
theorem oXsure_p : ∀ b : Bool, protB b ct_Xsure.2.2.1 = true := by decide +kernel
theorem oXsure_j : protJ ct_Xsure.2.2.1 = true := by decide
theorem oXoff {cd : Nat → Nat → Option aI} (hct : ∀ m p o, ct m p = some o → cd m p = some (semO o)) {b : Bool} {rg : Nat → Nat} {M : aM} (hL : LB b rg M) (x1 x2 : Int32) (h2 : 0 ≤ x2.toInt ∧ x2.toInt ≤ 1) {d : Nat} (hd : 2 ≤ d) : wpS cd (d, [], 123, 0, la 0 [.inr (.inr (some 0)), .inl x1, .inl x2], [], M) (cQ RR rg M [0, x1.toInt, x2.toInt] ct_Xoff) :=
  cc_Xoff hct (LB_sgl hL) (ms := msT) (by decide) [0, x1.toInt, x2.toInt] [0] _ Fr_rf (ent_gam (s := [.inr (.inr (some 0)), .inl (1, 0), .inl (2, 0)]) rfl (gE_c ⟨by decide, by decide⟩ (gE_c (i32_bd x1) (gE_c h2 gE_n))) rfl (gG_c ⟨by decide, lo_n hL (by decide), rg_at hL (by decide) (fun b => by cases b <;> rfl)⟩ gG_n) gB_n hL.1 hd ⟨rfl, ⟨⟨_, rfl, iz⟩, ⟨⟨_, rfl, iz⟩, trivial⟩⟩⟩ rfl)
theorem oXoff_p : ∀ b : Bool, protB b ct_Xoff.2.2.1 = true := by decide +kernel
theorem oXoff_j : protJ ct_Xoff.2.2.1 = true := by decide
theorem oXring {cd : Nat → Nat → Option aI} (hct : ∀ m p o, ct m p = some o → cd m p = some (semO o)) {b : Bool} {rg : Nat → Nat} {M : aM} (hL : LB b rg M) (x1 : Int32) {d : Nat} (hd : 4 ≤ d) : wpS cd (d, [], 124, 0, la 0 [.inr (.inr (some 0)), .inl x1], [], M) (cQ RR rg M [0, x1.toInt] ct_Xring) :=
  cc_Xring hct (LB_sgl hL) (ms := msT) (by decide) [0, x1.toInt] [0] _ Fr_rf (ent_gam (s := [.inr (.inr (some 0)), .inl (1, 0)]) rfl (gE_c ⟨by decide, by decide⟩ (gE_c (i32_bd x1) gE_n)) rfl (gG_c ⟨by decide, lo_n hL (by decide), rg_at hL (by decide) (fun b => by cases b <;> rfl)⟩ gG_n) gB_n hL.1 hd ⟨rfl, ⟨⟨_, rfl, iz⟩, trivial⟩⟩ rfl)
theorem oXring_p : ∀ b : Bool, protB b ct_Xring.2.2.1 = true := by decide +kernel
theorem oXring_j : protJ ct_Xring.2.2.1 = true := by decide
theorem oXsees {cd : Nat → Nat → Option aI} (hct : ∀ m p o, ct m p = some o → cd m p = some (semO o)) {b : Bool} {rg : Nat → Nat} {M : aM} (hL : LB b rg M) (x1 : Int32) {d : Nat} (hd : 4 ≤ d) : wpS cd (d, [], 125, 0, la 0 [.inr (.inr (some 0)), .inl x1], [], M) (cQ RR rg M [0, x1.toInt] ct_Xsees) :=
  cc_Xsees hct (LB_sgl hL) (ms := msT) (by decide) [0, x1.toInt] [0] _ Fr_rf (ent_gam (s := [.inr (.inr (some 0)), .inl (1, 0)]) rfl (gE_c ⟨by decide, by decide⟩ (gE_c (i32_bd x1) gE_n)) rfl (gG_c ⟨by decide, lo_n hL (by decide), rg_at hL (by decide) (fun b => by cases b <;> rfl)⟩ gG_n) gB_n hL.1 hd ⟨rfl, ⟨⟨_, rfl, iz⟩, trivial⟩⟩ rfl)
theorem oXsees_p : ∀ b : Bool, protB b ct_Xsees.2.2.1 = true := by decide +kernel
theorem oXsees_j : protJ ct_Xsees.2.2.1 = true := by decide
theorem oXblow {cd : Nat → Nat → Option aI} (hct : ∀ m p o, ct m p = some o → cd m p = some (semO o)) {b : Bool} {rg : Nat → Nat} {M : aM} (hL : LB b rg M) (x1 x2 x3 : Int32) {d : Nat} (hd : 3 ≤ d) : wpS cd (d, [], 126, 0, la 0 [.inr (.inr (some 0)), .inl x1, .inl x2, .inl x3], [], M) (cQ RR rg M [0, x1.toInt, x2.toInt, x3.toInt] ct_Xblow) :=
  cc_Xblow hct (LB_sgl hL) (ms := msT) (by decide) [0, x1.toInt, x2.toInt, x3.toInt] [0] _ Fr_rf (ent_gam (s := [.inr (.inr (some 0)), .inl (1, 0), .inl (2, 0), .inl (3, 0)]) rfl (gE_c ⟨by decide, by decide⟩ (gE_c (i32_bd x1) (gE_c (i32_bd x2) (gE_c (i32_bd x3) gE_n)))) rfl (gG_c ⟨by decide, lo_n hL (by decide), rg_at hL (by decide) (fun b => by cases b <;> rfl)⟩ gG_n) gB_n hL.1 hd ⟨rfl, ⟨⟨_, rfl, iz⟩, ⟨⟨_, rfl, iz⟩, ⟨⟨_, rfl, iz⟩, trivial⟩⟩⟩⟩ rfl)
theorem oXblow_p : ∀ b : Bool, protB b ct_Xblow.2.2.1 = true := by decide +kernel
theorem oXblow_j : protJ ct_Xblow.2.2.1 = true := by decide
theorem oXfewest {cd : Nat → Nat → Option aI} (hct : ∀ m p o, ct m p = some o → cd m p = some (semO o)) {b : Bool} {rg : Nat → Nat} {M : aM} (hL : LB b rg M) (x1 x2 : Int32) {d : Nat} (hd : 4 ≤ d) : wpS cd (d, [], 127, 0, la 0 [.inr (.inr (some 0)), .inl x1, .inl x2], [], M) (cQ RR rg M [0, x1.toInt, x2.toInt] ct_Xfewest) :=
  cc_Xfewest hct (LB_sgl hL) (ms := msT) (by decide) [0, x1.toInt, x2.toInt] [0] _ Fr_rf (ent_gam (s := [.inr (.inr (some 0)), .inl (1, 0), .inl (2, 0)]) rfl (gE_c ⟨by decide, by decide⟩ (gE_c (i32_bd x1) (gE_c (i32_bd x2) gE_n))) rfl (gG_c ⟨by decide, lo_n hL (by decide), rg_at hL (by decide) (fun b => by cases b <;> rfl)⟩ gG_n) gB_n hL.1 hd ⟨rfl, ⟨⟨_, rfl, iz⟩, ⟨⟨_, rfl, iz⟩, trivial⟩⟩⟩ rfl)
theorem oXfewest_p : ∀ b : Bool, protB b ct_Xfewest.2.2.1 = true := by decide +kernel
theorem oXfewest_j : protJ ct_Xfewest.2.2.1 = true := by decide
theorem oXstroke {cd : Nat → Nat → Option aI} (hct : ∀ m p o, ct m p = some o → cd m p = some (semO o)) {b : Bool} {rg : Nat → Nat} {M : aM} (hL : LB b rg M) (x1 : Int32) {d : Nat} (hd : 0 ≤ d) : wpS cd (d, [], 128, 0, la 0 [.inr (.inr (some 0)), .inl x1], [], M) (cQ RR rg M [0, x1.toInt] ct_Xstroke) :=
  cc_Xstroke hct (LB_sgl hL) (ms := msT) (by decide) [0, x1.toInt] [0] _ Fr_rf (ent_gam (s := [.inr (.inr (some 0)), .inl (1, 0)]) rfl (gE_c ⟨by decide, by decide⟩ (gE_c (i32_bd x1) gE_n)) rfl (gG_c ⟨by decide, lo_n hL (by decide), rg_at hL (by decide) (fun b => by cases b <;> rfl)⟩ gG_n) gB_n hL.1 hd ⟨rfl, ⟨⟨_, rfl, iz⟩, trivial⟩⟩ rfl)
theorem oXstroke_p : ∀ b : Bool, protB b ct_Xstroke.2.2.1 = true := by decide +kernel
theorem oXstroke_j : protJ ct_Xstroke.2.2.1 = true := by decide
theorem oXheat {cd : Nat → Nat → Option aI} (hct : ∀ m p o, ct m p = some o → cd m p = some (semO o)) {b : Bool} {rg : Nat → Nat} {M : aM} (hL : LB b rg M) {d : Nat} (hd : 3 ≤ d) : wpS cd (d, [], 129, 0, la 0 [.inr (.inr (some 0))], [], M) (cQ RR rg M [0] ct_Xheat) :=
  cc_Xheat hct (LB_sgl hL) (ms := msT) (by decide) [0] [0] _ Fr_rf (ent_gam (s := [.inr (.inr (some 0))]) rfl (gE_c ⟨by decide, by decide⟩ gE_n) rfl (gG_c ⟨by decide, lo_n hL (by decide), rg_at hL (by decide) (fun b => by cases b <;> rfl)⟩ gG_n) gB_n hL.1 hd ⟨rfl, trivial⟩ rfl)
theorem oXheat_p : ∀ b : Bool, protB b ct_Xheat.2.2.1 = true := by decide +kernel
theorem oXheat_j : protJ ct_Xheat.2.2.1 = true := by decide
theorem oXabout {cd : Nat → Nat → Option aI} (hct : ∀ m p o, ct m p = some o → cd m p = some (semO o)) {b : Bool} {rg : Nat → Nat} {M : aM} (hL : LB b rg M) {d : Nat} (hd : 3 ≤ d) : wpS cd (d, [], 130, 0, la 0 [.inr (.inr (some 0))], [], M) (cQ RR rg M [0] ct_Xabout) :=
  cc_Xabout hct (LB_sgl hL) (ms := msT) (by decide) [0] [0] _ Fr_rf (ent_gam (s := [.inr (.inr (some 0))]) rfl (gE_c ⟨by decide, by decide⟩ gE_n) rfl (gG_c ⟨by decide, lo_n hL (by decide), rg_at hL (by decide) (fun b => by cases b <;> rfl)⟩ gG_n) gB_n hL.1 hd ⟨rfl, trivial⟩ rfl)
theorem oXabout_p : ∀ b : Bool, protB b ct_Xabout.2.2.1 = true := by decide +kernel
theorem oXabout_j : protJ ct_Xabout.2.2.1 = true := by decide
theorem oXwall {cd : Nat → Nat → Option aI} (hct : ∀ m p o, ct m p = some o → cd m p = some (semO o)) {b : Bool} {rg : Nat → Nat} {M : aM} (hL : LB b rg M) (x1 x2 x3 : Int32) {d : Nat} (hd : 1 ≤ d) : wpS cd (d, [], 131, 0, la 0 [.inr (.inr (some 0)), .inl x1, .inl x2, .inl x3], [], M) (cQ RR rg M [0, x1.toInt, x2.toInt, x3.toInt] ct_Xwall) :=
  cc_Xwall hct (LB_sgl hL) (ms := msT) (by decide) [0, x1.toInt, x2.toInt, x3.toInt] [0] _ Fr_rf (ent_gam (s := [.inr (.inr (some 0)), .inl (1, 0), .inl (2, 0), .inl (3, 0)]) rfl (gE_c ⟨by decide, by decide⟩ (gE_c (i32_bd x1) (gE_c (i32_bd x2) (gE_c (i32_bd x3) gE_n)))) rfl (gG_c ⟨by decide, lo_n hL (by decide), rg_at hL (by decide) (fun b => by cases b <;> rfl)⟩ gG_n) gB_n hL.1 hd ⟨rfl, ⟨⟨_, rfl, iz⟩, ⟨⟨_, rfl, iz⟩, ⟨⟨_, rfl, iz⟩, trivial⟩⟩⟩⟩ rfl)
theorem oXwall_p : ∀ b : Bool, protB b ct_Xwall.2.2.1 = true := by decide +kernel
theorem oXwall_j : protJ ct_Xwall.2.2.1 = true := by decide
theorem oXclear {cd : Nat → Nat → Option aI} (hct : ∀ m p o, ct m p = some o → cd m p = some (semO o)) {b : Bool} {rg : Nat → Nat} {M : aM} (hL : LB b rg M) {d : Nat} (hd : 1 ≤ d) : wpS cd (d, [], 132, 0, la 0 [.inr (.inr (some 0))], [], M) (cQ RR rg M [0] ct_Xclear) :=
  cc_Xclear hct (LB_sgl hL) (ms := msT) (by decide) [0] [0] _ Fr_rf (ent_gam (s := [.inr (.inr (some 0))]) rfl (gE_c ⟨by decide, by decide⟩ gE_n) rfl (gG_c ⟨by decide, lo_n hL (by decide), rg_at hL (by decide) (fun b => by cases b <;> rfl)⟩ gG_n) gB_n hL.1 hd ⟨rfl, trivial⟩ rfl)
theorem oXclear_p : ∀ b : Bool, protB b ct_Xclear.2.2.1 = true := by decide +kernel
theorem oXclear_j : protJ ct_Xclear.2.2.1 = true := by decide
theorem oXlies {cd : Nat → Nat → Option aI} (hct : ∀ m p o, ct m p = some o → cd m p = some (semO o)) {b : Bool} {rg : Nat → Nat} {M : aM} (hL : LB b rg M) (x1 x2 x3 : Int32) (h3 : 0 ≤ x3.toInt ∧ x3.toInt ≤ 1) {d : Nat} (hd : 3 ≤ d) : wpS cd (d, [], 133, 0, la 0 [.inr (.inr (some 0)), .inl x1, .inl x2, .inl x3], [], M) (cQ RR rg M [0, x1.toInt, x2.toInt, x3.toInt] ct_Xlies) :=
  cc_Xlies hct (LB_sgl hL) (ms := msT) (by decide) [0, x1.toInt, x2.toInt, x3.toInt] [0] _ Fr_rf (ent_gam (s := [.inr (.inr (some 0)), .inl (1, 0), .inl (2, 0), .inl (3, 0)]) rfl (gE_c ⟨by decide, by decide⟩ (gE_c (i32_bd x1) (gE_c (i32_bd x2) (gE_c h3 gE_n)))) rfl (gG_c ⟨by decide, lo_n hL (by decide), rg_at hL (by decide) (fun b => by cases b <;> rfl)⟩ gG_n) gB_n hL.1 hd ⟨rfl, ⟨⟨_, rfl, iz⟩, ⟨⟨_, rfl, iz⟩, ⟨⟨_, rfl, iz⟩, trivial⟩⟩⟩⟩ rfl)
theorem oXlies_p : ∀ b : Bool, protB b ct_Xlies.2.2.1 = true := by decide +kernel
theorem oXlies_j : protJ ct_Xlies.2.2.1 = true := by decide
theorem oXnext {cd : Nat → Nat → Option aI} (hct : ∀ m p o, ct m p = some o → cd m p = some (semO o)) {b : Bool} {rg : Nat → Nat} {M : aM} (hL : LB b rg M) (x1 : Int32) {d : Nat} (hd : 3 ≤ d) : wpS cd (d, [], 134, 0, la 0 [.inr (.inr (some 0)), .inl x1], [], M) (cQ RR rg M [0, x1.toInt] ct_Xnext) :=
  cc_Xnext hct (LB_sgl hL) (ms := msT) (by decide) [0, x1.toInt] [0] _ Fr_rf (ent_gam (s := [.inr (.inr (some 0)), .inl (1, 0)]) rfl (gE_c ⟨by decide, by decide⟩ (gE_c (i32_bd x1) gE_n)) rfl (gG_c ⟨by decide, lo_n hL (by decide), rg_at hL (by decide) (fun b => by cases b <;> rfl)⟩ gG_n) gB_n hL.1 hd ⟨rfl, ⟨⟨_, rfl, iz⟩, trivial⟩⟩ rfl)
theorem oXnext_p : ∀ b : Bool, protB b ct_Xnext.2.2.1 = true := by decide +kernel
theorem oXnext_j : protJ ct_Xnext.2.2.1 = true := by decide
theorem oXtrouble {cd : Nat → Nat → Option aI} (hct : ∀ m p o, ct m p = some o → cd m p = some (semO o)) {b : Bool} {rg : Nat → Nat} {M : aM} (hL : LB b rg M) {d : Nat} (hd : 0 ≤ d) : wpS cd (d, [], 136, 0, la 0 [.inr (.inr (some 0))], [], M) (cQ RR rg M [0] ct_Xtrouble) :=
  cc_Xtrouble hct (LB_sgl hL) (ms := msT) (by decide) [0] [0] _ Fr_rf (ent_gam (s := [.inr (.inr (some 0))]) rfl (gE_c ⟨by decide, by decide⟩ gE_n) rfl (gG_c ⟨by decide, lo_n hL (by decide), rg_at hL (by decide) (fun b => by cases b <;> rfl)⟩ gG_n) gB_n hL.1 hd ⟨rfl, trivial⟩ rfl)
theorem oXtrouble_p : ∀ b : Bool, protB b ct_Xtrouble.2.2.1 = true := by decide +kernel
theorem oXtrouble_j : protJ ct_Xtrouble.2.2.1 = true := by decide
theorem oXfault {cd : Nat → Nat → Option aI} (hct : ∀ m p o, ct m p = some o → cd m p = some (semO o)) {b : Bool} {rg : Nat → Nat} {M : aM} (hL : LB b rg M) {d : Nat} (hd : 0 ≤ d) : wpS cd (d, [], 106, 0, la 0 [.inr (.inr (some 0))], [], M) (cQ RR rg M [0] ct_Xfault) :=
  cc_Xfault hct (LB_sgl hL) (ms := msT) (by decide) [0] [0] _ Fr_rf (ent_gam (s := [.inr (.inr (some 0))]) rfl (gE_c ⟨by decide, by decide⟩ gE_n) rfl (gG_c ⟨by decide, lo_n hL (by decide), rg_at hL (by decide) (fun b => by cases b <;> rfl)⟩ gG_n) gB_n hL.1 hd ⟨rfl, trivial⟩ rfl)
theorem oXfault_p : ∀ b : Bool, protB b ct_Xfault.2.2.1 = true := by decide +kernel
theorem oXfault_j : protJ ct_Xfault.2.2.1 = true := by decide
theorem oXwhere {cd : Nat → Nat → Option aI} (hct : ∀ m p o, ct m p = some o → cd m p = some (semO o)) {b : Bool} {rg : Nat → Nat} {M : aM} (hL : LB b rg M) {d : Nat} (hd : 0 ≤ d) : wpS cd (d, [], 107, 0, la 0 [.inr (.inr (some 0))], [], M) (cQ RR rg M [0] ct_Xwhere) :=
  cc_Xwhere hct (LB_sgl hL) (ms := msT) (by decide) [0] [0] _ Fr_rf (ent_gam (s := [.inr (.inr (some 0))]) rfl (gE_c ⟨by decide, by decide⟩ gE_n) rfl (gG_c ⟨by decide, lo_n hL (by decide), rg_at hL (by decide) (fun b => by cases b <;> rfl)⟩ gG_n) gB_n hL.1 hd ⟨rfl, trivial⟩ rfl)
theorem oXwhere_p : ∀ b : Bool, protB b ct_Xwhere.2.2.1 = true := by decide +kernel
theorem oXwhere_j : protJ ct_Xwhere.2.2.1 = true := by decide
theorem oXstate {cd : Nat → Nat → Option aI} (hct : ∀ m p o, ct m p = some o → cd m p = some (semO o)) {b : Bool} {rg : Nat → Nat} {M : aM} (hL : LB b rg M) (x1 : Int32) {d : Nat} (hd : 2 ≤ d) : wpS cd (d, [], 111, 0, la 0 [.inr (.inr (some 0)), .inl x1], [], M) (cQ RR rg M [0, x1.toInt] ct_Xstate) :=
  cc_Xstate hct (LB_sgl hL) (ms := msT) (by decide) [0, x1.toInt] [0] _ Fr_rf (ent_gam (s := [.inr (.inr (some 0)), .inl (1, 0)]) rfl (gE_c ⟨by decide, by decide⟩ (gE_c (i32_bd x1) gE_n)) rfl (gG_c ⟨by decide, lo_n hL (by decide), rg_at hL (by decide) (fun b => by cases b <;> rfl)⟩ gG_n) gB_n hL.1 hd ⟨rfl, ⟨⟨_, rfl, iz⟩, trivial⟩⟩ rfl)
theorem oXstate_p : ∀ b : Bool, protB b ct_Xstate.2.2.1 = true := by decide +kernel
theorem oXstate_j : protJ ct_Xstate.2.2.1 = true := by decide

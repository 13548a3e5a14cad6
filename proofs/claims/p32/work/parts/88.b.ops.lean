/-! The reference's calls by their contracts: printed by wip/gen/ops88b.py -/
theorem Fr_none {rg : Nat → Nat} {M X : aM} {b : Bool} (hL : LB b rg M) (h : a_P M 113 3 = none) (hF : Fr RR msT rg M X) : a_P X 113 3 = none := by
  rw [Fr_P hF (rg_at hL (a := 113) (by omega) (fun b => by cases b <;> rfl)) (show msT 13 3 = false from rfl)]
  exact h

theorem be_17 : ct_bores17_1 = ct_bores17 := rfl
theorem bor17 {cd : Nat → Nat → Option aI} (hct : ∀ m p o, ct m p = some o → cd m p = some (semO o)) {b : Bool} {rg : Nat → Nat} {M : aM} (hL : LB b rg M) (hJ : JM rg M) : yCtr cd RR rg M msT ct_bores17 := by
  rcases hJ.2.1 with hn | ⟨u, hu, hj⟩
  · intro ρ τ X hF hg
    exfalso
    obtain ⟨⟨_, g2, _⟩, g4, _⟩ := hg
    obtain ⟨a, a1, u, u1, u2⟩ := g4 ((0, 3), .inr (.inr (some 2))) (List.mem_cons_of_mem _ (List.mem_cons_of_mem _ List.mem_cons_self))
    have hra : a < a_n X.2.2.2.2.2.2 ∧ rg a = 13 := by
      rcases g2.2 0 13 a rfl a1 with ⟨_, e1, e2⟩ | ⟨e, _⟩
      · exact ⟨e1, e2⟩
      · exact absurd e (by decide)
    have hn9 : a_n X.2.2.2.2.2.2 = a_n M := hF.1.1
    have ha : a = 113 := LB_sgl hL 13 (by decide) a 113 (by rw [← hn9]; exact hra.1) (lo_n hL (by decide)) hra.2 (rg_at hL (by decide) (fun b => by cases b <;> rfl))
    subst ha
    rw [Fr_none hL hn hF] at u2
    cases u2
  · refine ctr_f hL.2.2.2.1 hj (by decide) (by decide) (by decide) (by decide) (by decide) (fun fr f1 f8 M1 hn => ?_)
    have hs : sgl g9L (a_n M1) rg := by rw [hn]; exact LB_sgl hL
    by_cases e : fr = 1
    · subst e
      rw [← be_17]
      exact cc_bores17_1 hct hs (by decide)
    · have hv : fr ∈ vl_bores17 := by
        rcases (show fr = 2 ∨ fr = 3 ∨ fr = 4 ∨ fr = 5 ∨ fr = 6 ∨ fr = 7 ∨ fr = 8 by omega) with e | e | e | e | e | e | e <;> (rw [e]; decide)
      exact cc_bores17 hv hct hs (by decide)

theorem be_18 : ct_bores18_1 = ct_bores18 := rfl
theorem bor18 {cd : Nat → Nat → Option aI} (hct : ∀ m p o, ct m p = some o → cd m p = some (semO o)) {b : Bool} {rg : Nat → Nat} {M : aM} (hL : LB b rg M) (hJ : JM rg M) : yCtr cd RR rg M msT ct_bores18 := by
  rcases hJ.2.1 with hn | ⟨u, hu, hj⟩
  · intro ρ τ X hF hg
    exfalso
    obtain ⟨⟨_, g2, _⟩, g4, _⟩ := hg
    obtain ⟨a, a1, u, u1, u2⟩ := g4 ((0, 3), .inr (.inr (some 2))) (List.mem_cons_of_mem _ (List.mem_cons_of_mem _ List.mem_cons_self))
    have hra : a < a_n X.2.2.2.2.2.2 ∧ rg a = 13 := by
      rcases g2.2 0 13 a rfl a1 with ⟨_, e1, e2⟩ | ⟨e, _⟩
      · exact ⟨e1, e2⟩
      · exact absurd e (by decide)
    have hn9 : a_n X.2.2.2.2.2.2 = a_n M := hF.1.1
    have ha : a = 113 := LB_sgl hL 13 (by decide) a 113 (by rw [← hn9]; exact hra.1) (lo_n hL (by decide)) hra.2 (rg_at hL (by decide) (fun b => by cases b <;> rfl))
    subst ha
    rw [Fr_none hL hn hF] at u2
    cases u2
  · refine ctr_f hL.2.2.2.1 hj (by decide) (by decide) (by decide) (by decide) (by decide) (fun fr f1 f8 M1 hn => ?_)
    have hs : sgl g9L (a_n M1) rg := by rw [hn]; exact LB_sgl hL
    by_cases e : fr = 1
    · subst e
      rw [← be_18]
      exact cc_bores18_1 hct hs (by decide)
    · have hv : fr ∈ vl_bores18 := by
        rcases (show fr = 2 ∨ fr = 3 ∨ fr = 4 ∨ fr = 5 ∨ fr = 6 ∨ fr = 7 ∨ fr = 8 by omega) with e | e | e | e | e | e | e <;> (rw [e]; decide)
      exact cc_bores18 hv hct hs (by decide)

theorem oMinch {cd : Nat → Nat → Option aI} (hct : ∀ m p o, ct m p = some o → cd m p = some (semO o)) {b : Bool} {rg : Nat → Nat} {M : aM} (hL : LB b rg M) (hJ : JM rg M) (x1 x2 : Int32) {d : Nat} (hd : 1 ≤ d) : wpS cd (d, [], 193, 0, la 0 [.inr (.inr (some 113)), .inl x1, .inl x2], [], M) (cQ RR rg M [0, x1.toInt, x2.toInt, dnM M] ct_Minch) :=
  cc_Minch hct (LB_sgl hL) (ms := msT) (by decide) [0, x1.toInt, x2.toInt, dnM M] [113, 115] _ Fr_rf (ent_gam (s := [.inr (.inr (some 0)), .inl (1, 0), .inl (2, 0)]) rfl (gE_c ⟨by decide, by decide⟩ (gE_c (i32_bd x1) (gE_c (i32_bd x2) (gE_c hJ.1 gE_n)))) rfl (gG_c ⟨by decide, lo_n hL (by decide), rg_at hL (by decide) (fun b => by cases b <;> rfl)⟩ (gG_c ⟨by decide, lo_n hL (by decide), rg_at hL (by decide) (fun b => by cases b <;> rfl)⟩ gG_n)) (gB_cons (gB_cons gB_n rfl ⟨dnM M, rfl, iz⟩) rfl ⟨115, rfl, hL.2.2.2.2.2.1 (113, 17, 115) (by decide)⟩) hL.1 hd ⟨rfl, ⟨⟨_, rfl, iz⟩, ⟨⟨_, rfl, iz⟩, trivial⟩⟩⟩ rfl)
theorem oMinch_p : ∀ b : Bool, protB b ct_Minch.2.2.1 = true := by decide +kernel
theorem oMinch_j : protJ ct_Minch.2.2.1 = true := by decide
theorem oMrows {cd : Nat → Nat → Option aI} (hct : ∀ m p o, ct m p = some o → cd m p = some (semO o)) {b : Bool} {rg : Nat → Nat} {M : aM} (hL : LB b rg M) (hJ : JM rg M) (x1 : Int32) {d : Nat} (hd : 2 ≤ d) : wpS cd (d, [], 200, 0, la 0 [.inr (.inr (some 113)), .inl x1], [], M) (cQ RR rg M [0, x1.toInt, dnM M] ct_Mrows) :=
  cc_Mrows hct (LB_sgl hL) (ms := msT) (by decide) [0, x1.toInt, dnM M] [113, 115] _ Fr_rf (ent_gam (s := [.inr (.inr (some 0)), .inl (1, 0)]) rfl (gE_c ⟨by decide, by decide⟩ (gE_c (i32_bd x1) (gE_c hJ.1 gE_n))) rfl (gG_c ⟨by decide, lo_n hL (by decide), rg_at hL (by decide) (fun b => by cases b <;> rfl)⟩ (gG_c ⟨by decide, lo_n hL (by decide), rg_at hL (by decide) (fun b => by cases b <;> rfl)⟩ gG_n)) (gB_cons (gB_cons gB_n rfl ⟨dnM M, rfl, iz⟩) rfl ⟨115, rfl, hL.2.2.2.2.2.1 (113, 17, 115) (by decide)⟩) hL.1 hd ⟨rfl, ⟨⟨_, rfl, iz⟩, trivial⟩⟩ rfl)
theorem oMrows_p : ∀ b : Bool, protB b ct_Mrows.2.2.1 = true := by decide +kernel
theorem oMrows_j : protJ ct_Mrows.2.2.1 = true := by decide
theorem oMcheapest {cd : Nat → Nat → Option aI} (hct : ∀ m p o, ct m p = some o → cd m p = some (semO o)) {b : Bool} {rg : Nat → Nat} {M : aM} (hL : LB b rg M) (hJ : JM rg M) (x1 x2 : Int32) {d : Nat} (hd : 2 ≤ d) : wpS cd (d, [], 201, 0, la 0 [.inr (.inr (some 113)), .inl x1, .inl x2], [], M) (cQ RR rg M [0, x1.toInt, x2.toInt, dnM M] ct_Mcheapest) :=
  cc_Mcheapest hct (LB_sgl hL) (ms := msT) (by decide) (bor17 hct hL hJ) (bor18 hct hL hJ) (cc_clears17 hct (LB_sgl hL) (by decide)) (cc_clears18 hct (LB_sgl hL) (by decide)) [0, x1.toInt, x2.toInt, dnM M] [113, 115] _ Fr_rf (ent_gam (s := [.inr (.inr (some 0)), .inl (1, 0), .inl (2, 0)]) rfl (gE_c ⟨by decide, by decide⟩ (gE_c (i32_bd x1) (gE_c (i32_bd x2) (gE_c hJ.1 gE_n)))) rfl (gG_c ⟨by decide, lo_n hL (by decide), rg_at hL (by decide) (fun b => by cases b <;> rfl)⟩ (gG_c ⟨by decide, lo_n hL (by decide), rg_at hL (by decide) (fun b => by cases b <;> rfl)⟩ gG_n)) (gB_cons (gB_cons gB_n rfl ⟨dnM M, rfl, iz⟩) rfl ⟨115, rfl, hL.2.2.2.2.2.1 (113, 17, 115) (by decide)⟩) hL.1 hd ⟨rfl, ⟨⟨_, rfl, iz⟩, ⟨⟨_, rfl, iz⟩, trivial⟩⟩⟩ rfl)
theorem oMcheapest_p : ∀ b : Bool, protB b ct_Mcheapest.2.2.1 = true := by decide +kernel
theorem oMcheapest_j : protJ ct_Mcheapest.2.2.1 = true := by decide
theorem oMfeedAt {cd : Nat → Nat → Option aI} (hct : ∀ m p o, ct m p = some o → cd m p = some (semO o)) {b : Bool} {rg : Nat → Nat} {M : aM} (hL : LB b rg M) (hJ : JM rg M) (x1 : Int32) {d : Nat} (hd : 0 ≤ d) : wpS cd (d, [], 202, 0, la 0 [.inr (.inr (some 113)), .inl x1], [], M) (cQ RR rg M [0, x1.toInt, dnM M] ct_MfeedAt) :=
  cc_MfeedAt hct (LB_sgl hL) (ms := msT) (by decide) [0, x1.toInt, dnM M] [113, 115] _ Fr_rf (ent_gam (s := [.inr (.inr (some 0)), .inl (1, 0)]) rfl (gE_c ⟨by decide, by decide⟩ (gE_c (i32_bd x1) (gE_c hJ.1 gE_n))) rfl (gG_c ⟨by decide, lo_n hL (by decide), rg_at hL (by decide) (fun b => by cases b <;> rfl)⟩ (gG_c ⟨by decide, lo_n hL (by decide), rg_at hL (by decide) (fun b => by cases b <;> rfl)⟩ gG_n)) (gB_cons (gB_cons gB_n rfl ⟨dnM M, rfl, iz⟩) rfl ⟨115, rfl, hL.2.2.2.2.2.1 (113, 17, 115) (by decide)⟩) hL.1 hd ⟨rfl, ⟨⟨_, rfl, iz⟩, trivial⟩⟩ rfl)
theorem oMfeedAt_p : ∀ b : Bool, protB b ct_MfeedAt.2.2.1 = true := by decide +kernel
theorem oMfeedAt_j : protJ ct_MfeedAt.2.2.1 = true := by decide
theorem oMmet {cd : Nat → Nat → Option aI} (hct : ∀ m p o, ct m p = some o → cd m p = some (semO o)) {b : Bool} {rg : Nat → Nat} {M : aM} (hL : LB b rg M) (hJ : JM rg M) (x1 : Int32) {d : Nat} (hd : 4 ≤ d) : wpS cd (d, [], 205, 0, la 0 [.inr (.inr (some 113)), .inl x1], [], M) (cQ RR rg M [0, x1.toInt, dnM M] ct_Mmet) :=
  cc_Mmet hct (LB_sgl hL) (ms := msT) (by decide) (bor17 hct hL hJ) (bor18 hct hL hJ) (cc_clears17 hct (LB_sgl hL) (by decide)) (cc_clears18 hct (LB_sgl hL) (by decide)) [0, x1.toInt, dnM M] [113, 115] _ Fr_rf (ent_gam (s := [.inr (.inr (some 0)), .inl (1, 0)]) rfl (gE_c ⟨by decide, by decide⟩ (gE_c (i32_bd x1) (gE_c hJ.1 gE_n))) rfl (gG_c ⟨by decide, lo_n hL (by decide), rg_at hL (by decide) (fun b => by cases b <;> rfl)⟩ (gG_c ⟨by decide, lo_n hL (by decide), rg_at hL (by decide) (fun b => by cases b <;> rfl)⟩ gG_n)) (gB_cons (gB_cons gB_n rfl ⟨dnM M, rfl, iz⟩) rfl ⟨115, rfl, hL.2.2.2.2.2.1 (113, 17, 115) (by decide)⟩) hL.1 hd ⟨rfl, ⟨⟨_, rfl, iz⟩, trivial⟩⟩ rfl)
theorem oMmet_p : ∀ b : Bool, protB b ct_Mmet.2.2.1 = true := by decide +kernel
theorem oMmet_j : protJ ct_Mmet.2.2.1 = true := by decide
theorem oMmeet {cd : Nat → Nat → Option aI} (hct : ∀ m p o, ct m p = some o → cd m p = some (semO o)) {b : Bool} {rg : Nat → Nat} {M : aM} (hL : LB b rg M) (hJ : JM rg M) {d : Nat} (hd : 4 ≤ d) : wpS cd (d, [], 206, 0, la 0 [.inr (.inr (some 113))], [], M) (cQ RR rg M [0, dnM M] ct_Mmeet) :=
  cc_Mmeet hct (LB_sgl hL) (ms := msT) (by decide) (bor17 hct hL hJ) (bor18 hct hL hJ) (cc_clears17 hct (LB_sgl hL) (by decide)) (cc_clears18 hct (LB_sgl hL) (by decide)) [0, dnM M] [113, 115] _ Fr_rf (ent_gam (s := [.inr (.inr (some 0))]) rfl (gE_c ⟨by decide, by decide⟩ (gE_c hJ.1 gE_n)) rfl (gG_c ⟨by decide, lo_n hL (by decide), rg_at hL (by decide) (fun b => by cases b <;> rfl)⟩ (gG_c ⟨by decide, lo_n hL (by decide), rg_at hL (by decide) (fun b => by cases b <;> rfl)⟩ gG_n)) (gB_cons (gB_cons gB_n rfl ⟨dnM M, rfl, iz⟩) rfl ⟨115, rfl, hL.2.2.2.2.2.1 (113, 17, 115) (by decide)⟩) hL.1 hd ⟨rfl, trivial⟩ rfl)
theorem oMmeet_p : ∀ b : Bool, protB b ct_Mmeet.2.2.1 = true := by decide +kernel
theorem oMmeet_j : protJ ct_Mmeet.2.2.1 = true := by decide
theorem oMfelt {cd : Nat → Nat → Option aI} (hct : ∀ m p o, ct m p = some o → cd m p = some (semO o)) {b : Bool} {rg : Nat → Nat} {M : aM} (hL : LB b rg M) (hJ : JM rg M) (x1 x2 : Int32) {d : Nat} (hd : 1 ≤ d) : wpS cd (d, [], 207, 0, la 0 [.inr (.inr (some 113)), .inl x1, .inl x2], [], M) (cQ RR rg M [0, x1.toInt, x2.toInt, dnM M] ct_Mfelt) :=
  cc_Mfelt hct (LB_sgl hL) (ms := msT) (by decide) [0, x1.toInt, x2.toInt, dnM M] [113, 115] _ Fr_rf (ent_gam (s := [.inr (.inr (some 0)), .inl (1, 0), .inl (2, 0)]) rfl (gE_c ⟨by decide, by decide⟩ (gE_c (i32_bd x1) (gE_c (i32_bd x2) (gE_c hJ.1 gE_n)))) rfl (gG_c ⟨by decide, lo_n hL (by decide), rg_at hL (by decide) (fun b => by cases b <;> rfl)⟩ (gG_c ⟨by decide, lo_n hL (by decide), rg_at hL (by decide) (fun b => by cases b <;> rfl)⟩ gG_n)) (gB_cons (gB_cons gB_n rfl ⟨dnM M, rfl, iz⟩) rfl ⟨115, rfl, hL.2.2.2.2.2.1 (113, 17, 115) (by decide)⟩) hL.1 hd ⟨rfl, ⟨⟨_, rfl, iz⟩, ⟨⟨_, rfl, iz⟩, trivial⟩⟩⟩ rfl)
theorem oMfelt_p : ∀ b : Bool, protB b ct_Mfelt.2.2.1 = true := by decide +kernel
theorem oMfelt_j : protJ ct_Mfelt.2.2.1 = true := by decide
theorem oMforget {cd : Nat → Nat → Option aI} (hct : ∀ m p o, ct m p = some o → cd m p = some (semO o)) {b : Bool} {rg : Nat → Nat} {M : aM} (hL : LB b rg M) (hJ : JM rg M) {d : Nat} (hd : 0 ≤ d) : wpS cd (d, [], 208, 0, la 0 [.inr (.inr (some 113))], [], M) (cQ RR rg M [0, dnM M] ct_Mforget) :=
  cc_Mforget hct (LB_sgl hL) (ms := msT) (by decide) [0, dnM M] [113, 115] _ Fr_rf (ent_gam (s := [.inr (.inr (some 0))]) rfl (gE_c ⟨by decide, by decide⟩ (gE_c hJ.1 gE_n)) rfl (gG_c ⟨by decide, lo_n hL (by decide), rg_at hL (by decide) (fun b => by cases b <;> rfl)⟩ (gG_c ⟨by decide, lo_n hL (by decide), rg_at hL (by decide) (fun b => by cases b <;> rfl)⟩ gG_n)) (gB_cons (gB_cons gB_n rfl ⟨dnM M, rfl, iz⟩) rfl ⟨115, rfl, hL.2.2.2.2.2.1 (113, 17, 115) (by decide)⟩) hL.1 hd ⟨rfl, trivial⟩ rfl)
theorem oMforget_p : ∀ b : Bool, protB b ct_Mforget.2.2.1 = true := by decide +kernel
theorem oMforget_j : protJ ct_Mforget.2.2.1 = true := by decide
theorem oMcauses {cd : Nat → Nat → Option aI} (hct : ∀ m p o, ct m p = some o → cd m p = some (semO o)) {b : Bool} {rg : Nat → Nat} {M : aM} (hL : LB b rg M) (hJ : JM rg M) {d : Nat} (hd : 3 ≤ d) : wpS cd (d, [], 212, 0, la 0 [.inr (.inr (some 113))], [], M) (cQ RR rg M [0, dnM M] ct_Mcauses) :=
  cc_Mcauses hct (LB_sgl hL) (ms := msT) (by decide) (bor17 hct hL hJ) (bor18 hct hL hJ) (cc_clears17 hct (LB_sgl hL) (by decide)) (cc_clears18 hct (LB_sgl hL) (by decide)) [0, dnM M] [113, 115] _ Fr_rf (ent_gam (s := [.inr (.inr (some 0))]) rfl (gE_c ⟨by decide, by decide⟩ (gE_c hJ.1 gE_n)) rfl (gG_c ⟨by decide, lo_n hL (by decide), rg_at hL (by decide) (fun b => by cases b <;> rfl)⟩ (gG_c ⟨by decide, lo_n hL (by decide), rg_at hL (by decide) (fun b => by cases b <;> rfl)⟩ gG_n)) (gB_cons (gB_cons gB_n rfl ⟨dnM M, rfl, iz⟩) rfl ⟨115, rfl, hL.2.2.2.2.2.1 (113, 17, 115) (by decide)⟩) hL.1 hd ⟨rfl, trivial⟩ rfl)
theorem oMcauses_p : ∀ b : Bool, protB b ct_Mcauses.2.2.1 = true := by decide +kernel
theorem oMcauses_j : protJ ct_Mcauses.2.2.1 = true := by decide
theorem oMcause {cd : Nat → Nat → Option aI} (hct : ∀ m p o, ct m p = some o → cd m p = some (semO o)) {b : Bool} {rg : Nat → Nat} {M : aM} (hL : LB b rg M) (hJ : JM rg M) (x1 x2 : Int32) {d : Nat} (hd : 3 ≤ d) : wpS cd (d, [], 213, 0, la 0 [.inr (.inr (some 113)), .inl x1, .inl x2], [], M) (cQ RR rg M [0, x1.toInt, x2.toInt, dnM M] ct_Mcause) :=
  cc_Mcause hct (LB_sgl hL) (ms := msT) (by decide) (bor17 hct hL hJ) (bor18 hct hL hJ) (cc_clears17 hct (LB_sgl hL) (by decide)) (cc_clears18 hct (LB_sgl hL) (by decide)) [0, x1.toInt, x2.toInt, dnM M] [113, 115] _ Fr_rf (ent_gam (s := [.inr (.inr (some 0)), .inl (1, 0), .inl (2, 0)]) rfl (gE_c ⟨by decide, by decide⟩ (gE_c (i32_bd x1) (gE_c (i32_bd x2) (gE_c hJ.1 gE_n)))) rfl (gG_c ⟨by decide, lo_n hL (by decide), rg_at hL (by decide) (fun b => by cases b <;> rfl)⟩ (gG_c ⟨by decide, lo_n hL (by decide), rg_at hL (by decide) (fun b => by cases b <;> rfl)⟩ gG_n)) (gB_cons (gB_cons gB_n rfl ⟨dnM M, rfl, iz⟩) rfl ⟨115, rfl, hL.2.2.2.2.2.1 (113, 17, 115) (by decide)⟩) hL.1 hd ⟨rfl, ⟨⟨_, rfl, iz⟩, ⟨⟨_, rfl, iz⟩, trivial⟩⟩⟩ rfl)
theorem oMcause_p : ∀ b : Bool, protB b ct_Mcause.2.2.1 = true := by decide +kernel
theorem oMcause_j : protJ ct_Mcause.2.2.1 = true := by decide
theorem oMsure {cd : Nat → Nat → Option aI} (hct : ∀ m p o, ct m p = some o → cd m p = some (semO o)) {b : Bool} {rg : Nat → Nat} {M : aM} (hL : LB b rg M) (hJ : JM rg M) (x1 : Int32) {d : Nat} (hd : 3 ≤ d) : wpS cd (d, [], 214, 0, la 0 [.inr (.inr (some 113)), .inl x1], [], M) (cQ RR rg M [0, x1.toInt, dnM M] ct_Msure) :=
  cc_Msure hct (LB_sgl hL) (ms := msT) (by decide) (bor17 hct hL hJ) (bor18 hct hL hJ) (cc_clears17 hct (LB_sgl hL) (by decide)) (cc_clears18 hct (LB_sgl hL) (by decide)) [0, x1.toInt, dnM M] [113, 115] _ Fr_rf (ent_gam (s := [.inr (.inr (some 0)), .inl (1, 0)]) rfl (gE_c ⟨by decide, by decide⟩ (gE_c (i32_bd x1) (gE_c hJ.1 gE_n))) rfl (gG_c ⟨by decide, lo_n hL (by decide), rg_at hL (by decide) (fun b => by cases b <;> rfl)⟩ (gG_c ⟨by decide, lo_n hL (by decide), rg_at hL (by decide) (fun b => by cases b <;> rfl)⟩ gG_n)) (gB_cons (gB_cons gB_n rfl ⟨dnM M, rfl, iz⟩) rfl ⟨115, rfl, hL.2.2.2.2.2.1 (113, 17, 115) (by decide)⟩) hL.1 hd ⟨rfl, ⟨⟨_, rfl, iz⟩, trivial⟩⟩ rfl)
theorem oMsure_p : ∀ b : Bool, protB b ct_Msure.2.2.1 = true := by decide +kernel
theorem oMsure_j : protJ ct_Msure.2.2.1 = true := by decide
theorem oMoff {cd : Nat → Nat → Option aI} (hct : ∀ m p o, ct m p = some o → cd m p = some (semO o)) {b : Bool} {rg : Nat → Nat} {M : aM} (hL : LB b rg M) (hJ : JM rg M) (x1 x2 : Int32) (h2 : 0 ≤ x2.toInt ∧ x2.toInt ≤ 1) {d : Nat} (hd : 2 ≤ d) : wpS cd (d, [], 218, 0, la 0 [.inr (.inr (some 113)), .inl x1, .inl x2], [], M) (cQ RR rg M [0, x1.toInt, x2.toInt, dnM M] ct_Moff) :=
  cc_Moff hct (LB_sgl hL) (ms := msT) (by decide) [0, x1.toInt, x2.toInt, dnM M] [113, 115] _ Fr_rf (ent_gam (s := [.inr (.inr (some 0)), .inl (1, 0), .inl (2, 0)]) rfl (gE_c ⟨by decide, by decide⟩ (gE_c (i32_bd x1) (gE_c h2 (gE_c hJ.1 gE_n)))) rfl (gG_c ⟨by decide, lo_n hL (by decide), rg_at hL (by decide) (fun b => by cases b <;> rfl)⟩ (gG_c ⟨by decide, lo_n hL (by decide), rg_at hL (by decide) (fun b => by cases b <;> rfl)⟩ gG_n)) (gB_cons (gB_cons gB_n rfl ⟨dnM M, rfl, iz⟩) rfl ⟨115, rfl, hL.2.2.2.2.2.1 (113, 17, 115) (by decide)⟩) hL.1 hd ⟨rfl, ⟨⟨_, rfl, iz⟩, ⟨⟨_, rfl, iz⟩, trivial⟩⟩⟩ rfl)
theorem oMoff_p : ∀ b : Bool, protB b ct_Moff.2.2.1 = true := by decide +kernel
theorem oMoff_j : protJ ct_Moff.2.2.1 = true := by decide
theorem oMring {cd : Nat → Nat → Option aI} (hct : ∀ m p o, ct m p = some o → cd m p = some (semO o)) {b : Bool} {rg : Nat → Nat} {M : aM} (hL : LB b rg M) (hJ : JM rg M) (x1 : Int32) {d : Nat} (hd : 4 ≤ d) : wpS cd (d, [], 222, 0, la 0 [.inr (.inr (some 113)), .inl x1], [], M) (cQ RR rg M [0, x1.toInt, dnM M] ct_Mring) :=
  cc_Mring hct (LB_sgl hL) (ms := msT) (by decide) [0, x1.toInt, dnM M] [113, 115] _ Fr_rf (ent_gam (s := [.inr (.inr (some 0)), .inl (1, 0)]) rfl (gE_c ⟨by decide, by decide⟩ (gE_c (i32_bd x1) (gE_c hJ.1 gE_n))) rfl (gG_c ⟨by decide, lo_n hL (by decide), rg_at hL (by decide) (fun b => by cases b <;> rfl)⟩ (gG_c ⟨by decide, lo_n hL (by decide), rg_at hL (by decide) (fun b => by cases b <;> rfl)⟩ gG_n)) (gB_cons (gB_cons gB_n rfl ⟨dnM M, rfl, iz⟩) rfl ⟨115, rfl, hL.2.2.2.2.2.1 (113, 17, 115) (by decide)⟩) hL.1 hd ⟨rfl, ⟨⟨_, rfl, iz⟩, trivial⟩⟩ rfl)
theorem oMring_p : ∀ b : Bool, protB b ct_Mring.2.2.1 = true := by decide +kernel
theorem oMring_j : protJ ct_Mring.2.2.1 = true := by decide
theorem oMsees {cd : Nat → Nat → Option aI} (hct : ∀ m p o, ct m p = some o → cd m p = some (semO o)) {b : Bool} {rg : Nat → Nat} {M : aM} (hL : LB b rg M) (hJ : JM rg M) (x1 : Int32) {d : Nat} (hd : 4 ≤ d) : wpS cd (d, [], 223, 0, la 0 [.inr (.inr (some 113)), .inl x1], [], M) (cQ RR rg M [0, x1.toInt, dnM M] ct_Msees) :=
  cc_Msees hct (LB_sgl hL) (ms := msT) (by decide) [0, x1.toInt, dnM M] [113, 115] _ Fr_rf (ent_gam (s := [.inr (.inr (some 0)), .inl (1, 0)]) rfl (gE_c ⟨by decide, by decide⟩ (gE_c (i32_bd x1) (gE_c hJ.1 gE_n))) rfl (gG_c ⟨by decide, lo_n hL (by decide), rg_at hL (by decide) (fun b => by cases b <;> rfl)⟩ (gG_c ⟨by decide, lo_n hL (by decide), rg_at hL (by decide) (fun b => by cases b <;> rfl)⟩ gG_n)) (gB_cons (gB_cons gB_n rfl ⟨dnM M, rfl, iz⟩) rfl ⟨115, rfl, hL.2.2.2.2.2.1 (113, 17, 115) (by decide)⟩) hL.1 hd ⟨rfl, ⟨⟨_, rfl, iz⟩, trivial⟩⟩ rfl)
theorem oMsees_p : ∀ b : Bool, protB b ct_Msees.2.2.1 = true := by decide +kernel
theorem oMsees_j : protJ ct_Msees.2.2.1 = true := by decide
theorem oMstroke {cd : Nat → Nat → Option aI} (hct : ∀ m p o, ct m p = some o → cd m p = some (semO o)) {b : Bool} {rg : Nat → Nat} {M : aM} (hL : LB b rg M) (hJ : JM rg M) (x1 : Int32) {d : Nat} (hd : 0 ≤ d) : wpS cd (d, [], 232, 0, la 0 [.inr (.inr (some 113)), .inl x1], [], M) (cQ RR rg M [0, x1.toInt, dnM M] ct_Mstroke) :=
  cc_Mstroke hct (LB_sgl hL) (ms := msT) (by decide) [0, x1.toInt, dnM M] [113, 115] _ Fr_rf (ent_gam (s := [.inr (.inr (some 0)), .inl (1, 0)]) rfl (gE_c ⟨by decide, by decide⟩ (gE_c (i32_bd x1) (gE_c hJ.1 gE_n))) rfl (gG_c ⟨by decide, lo_n hL (by decide), rg_at hL (by decide) (fun b => by cases b <;> rfl)⟩ (gG_c ⟨by decide, lo_n hL (by decide), rg_at hL (by decide) (fun b => by cases b <;> rfl)⟩ gG_n)) (gB_cons (gB_cons gB_n rfl ⟨dnM M, rfl, iz⟩) rfl ⟨115, rfl, hL.2.2.2.2.2.1 (113, 17, 115) (by decide)⟩) hL.1 hd ⟨rfl, ⟨⟨_, rfl, iz⟩, trivial⟩⟩ rfl)
theorem oMstroke_p : ∀ b : Bool, protB b ct_Mstroke.2.2.1 = true := by decide +kernel
theorem oMstroke_j : protJ ct_Mstroke.2.2.1 = true := by decide
theorem oMabout {cd : Nat → Nat → Option aI} (hct : ∀ m p o, ct m p = some o → cd m p = some (semO o)) {b : Bool} {rg : Nat → Nat} {M : aM} (hL : LB b rg M) (hJ : JM rg M) {d : Nat} (hd : 2 ≤ d) : wpS cd (d, [], 234, 0, la 0 [.inr (.inr (some 113))], [], M) (cQ RR rg M [0, dnM M] ct_Mabout) :=
  cc_Mabout hct (LB_sgl hL) (ms := msT) (by decide) [0, dnM M] [113, 115] _ Fr_rf (ent_gam (s := [.inr (.inr (some 0))]) rfl (gE_c ⟨by decide, by decide⟩ (gE_c hJ.1 gE_n)) rfl (gG_c ⟨by decide, lo_n hL (by decide), rg_at hL (by decide) (fun b => by cases b <;> rfl)⟩ (gG_c ⟨by decide, lo_n hL (by decide), rg_at hL (by decide) (fun b => by cases b <;> rfl)⟩ gG_n)) (gB_cons (gB_cons gB_n rfl ⟨dnM M, rfl, iz⟩) rfl ⟨115, rfl, hL.2.2.2.2.2.1 (113, 17, 115) (by decide)⟩) hL.1 hd ⟨rfl, trivial⟩ rfl)
theorem oMabout_p : ∀ b : Bool, protB b ct_Mabout.2.2.1 = true := by decide +kernel
theorem oMabout_j : protJ ct_Mabout.2.2.1 = true := by decide
theorem oMwall {cd : Nat → Nat → Option aI} (hct : ∀ m p o, ct m p = some o → cd m p = some (semO o)) {b : Bool} {rg : Nat → Nat} {M : aM} (hL : LB b rg M) (hJ : JM rg M) (x1 x2 x3 : Int32) {d : Nat} (hd : 1 ≤ d) : wpS cd (d, [], 235, 0, la 0 [.inr (.inr (some 113)), .inl x1, .inl x2, .inl x3], [], M) (cQ RR rg M [0, x1.toInt, x2.toInt, x3.toInt, dnM M] ct_Mwall) :=
  cc_Mwall hct (LB_sgl hL) (ms := msT) (by decide) [0, x1.toInt, x2.toInt, x3.toInt, dnM M] [113, 115] _ Fr_rf (ent_gam (s := [.inr (.inr (some 0)), .inl (1, 0), .inl (2, 0), .inl (3, 0)]) rfl (gE_c ⟨by decide, by decide⟩ (gE_c (i32_bd x1) (gE_c (i32_bd x2) (gE_c (i32_bd x3) (gE_c hJ.1 gE_n))))) rfl (gG_c ⟨by decide, lo_n hL (by decide), rg_at hL (by decide) (fun b => by cases b <;> rfl)⟩ (gG_c ⟨by decide, lo_n hL (by decide), rg_at hL (by decide) (fun b => by cases b <;> rfl)⟩ gG_n)) (gB_cons (gB_cons gB_n rfl ⟨dnM M, rfl, iz⟩) rfl ⟨115, rfl, hL.2.2.2.2.2.1 (113, 17, 115) (by decide)⟩) hL.1 hd ⟨rfl, ⟨⟨_, rfl, iz⟩, ⟨⟨_, rfl, iz⟩, ⟨⟨_, rfl, iz⟩, trivial⟩⟩⟩⟩ rfl)
theorem oMwall_p : ∀ b : Bool, protB b ct_Mwall.2.2.1 = true := by decide +kernel
theorem oMwall_j : protJ ct_Mwall.2.2.1 = true := by decide
theorem oMclear {cd : Nat → Nat → Option aI} (hct : ∀ m p o, ct m p = some o → cd m p = some (semO o)) {b : Bool} {rg : Nat → Nat} {M : aM} (hL : LB b rg M) (hJ : JM rg M) {d : Nat} (hd : 0 ≤ d) : wpS cd (d, [], 236, 0, la 0 [.inr (.inr (some 113))], [], M) (cQ RR rg M [0, dnM M] ct_Mclear) :=
  cc_Mclear hct (LB_sgl hL) (ms := msT) (by decide) [0, dnM M] [113, 115] _ Fr_rf (ent_gam (s := [.inr (.inr (some 0))]) rfl (gE_c ⟨by decide, by decide⟩ (gE_c hJ.1 gE_n)) rfl (gG_c ⟨by decide, lo_n hL (by decide), rg_at hL (by decide) (fun b => by cases b <;> rfl)⟩ (gG_c ⟨by decide, lo_n hL (by decide), rg_at hL (by decide) (fun b => by cases b <;> rfl)⟩ gG_n)) (gB_cons (gB_cons gB_n rfl ⟨dnM M, rfl, iz⟩) rfl ⟨115, rfl, hL.2.2.2.2.2.1 (113, 17, 115) (by decide)⟩) hL.1 hd ⟨rfl, trivial⟩ rfl)
theorem oMclear_p : ∀ b : Bool, protB b ct_Mclear.2.2.1 = true := by decide +kernel
theorem oMclear_j : protJ ct_Mclear.2.2.1 = true := by decide
theorem oMtrouble {cd : Nat → Nat → Option aI} (hct : ∀ m p o, ct m p = some o → cd m p = some (semO o)) {b : Bool} {rg : Nat → Nat} {M : aM} (hL : LB b rg M) (hJ : JM rg M) {d : Nat} (hd : 0 ≤ d) : wpS cd (d, [], 242, 0, la 0 [.inr (.inr (some 113))], [], M) (cQ RR rg M [0, dnM M] ct_Mtrouble) :=
  cc_Mtrouble hct (LB_sgl hL) (ms := msT) (by decide) [0, dnM M] [113, 115] _ Fr_rf (ent_gam (s := [.inr (.inr (some 0))]) rfl (gE_c ⟨by decide, by decide⟩ (gE_c hJ.1 gE_n)) rfl (gG_c ⟨by decide, lo_n hL (by decide), rg_at hL (by decide) (fun b => by cases b <;> rfl)⟩ (gG_c ⟨by decide, lo_n hL (by decide), rg_at hL (by decide) (fun b => by cases b <;> rfl)⟩ gG_n)) (gB_cons (gB_cons gB_n rfl ⟨dnM M, rfl, iz⟩) rfl ⟨115, rfl, hL.2.2.2.2.2.1 (113, 17, 115) (by decide)⟩) hL.1 hd ⟨rfl, trivial⟩ rfl)
theorem oMtrouble_p : ∀ b : Bool, protB b ct_Mtrouble.2.2.1 = true := by decide +kernel
theorem oMtrouble_j : protJ ct_Mtrouble.2.2.1 = true := by decide
theorem oMfault {cd : Nat → Nat → Option aI} (hct : ∀ m p o, ct m p = some o → cd m p = some (semO o)) {b : Bool} {rg : Nat → Nat} {M : aM} (hL : LB b rg M) (hJ : JM rg M) {d : Nat} (hd : 0 ≤ d) : wpS cd (d, [], 182, 0, la 0 [.inr (.inr (some 113))], [], M) (cQ RR rg M [0, dnM M] ct_Mfault) :=
  cc_Mfault hct (LB_sgl hL) (ms := msT) (by decide) [0, dnM M] [113, 115] _ Fr_rf (ent_gam (s := [.inr (.inr (some 0))]) rfl (gE_c ⟨by decide, by decide⟩ (gE_c hJ.1 gE_n)) rfl (gG_c ⟨by decide, lo_n hL (by decide), rg_at hL (by decide) (fun b => by cases b <;> rfl)⟩ (gG_c ⟨by decide, lo_n hL (by decide), rg_at hL (by decide) (fun b => by cases b <;> rfl)⟩ gG_n)) (gB_cons (gB_cons gB_n rfl ⟨dnM M, rfl, iz⟩) rfl ⟨115, rfl, hL.2.2.2.2.2.1 (113, 17, 115) (by decide)⟩) hL.1 hd ⟨rfl, trivial⟩ rfl)
theorem oMfault_p : ∀ b : Bool, protB b ct_Mfault.2.2.1 = true := by decide +kernel
theorem oMfault_j : protJ ct_Mfault.2.2.1 = true := by decide
theorem oMwhere {cd : Nat → Nat → Option aI} (hct : ∀ m p o, ct m p = some o → cd m p = some (semO o)) {b : Bool} {rg : Nat → Nat} {M : aM} (hL : LB b rg M) (hJ : JM rg M) {d : Nat} (hd : 0 ≤ d) : wpS cd (d, [], 183, 0, la 0 [.inr (.inr (some 113))], [], M) (cQ RR rg M [0, dnM M] ct_Mwhere) :=
  cc_Mwhere hct (LB_sgl hL) (ms := msT) (by decide) [0, dnM M] [113, 115] _ Fr_rf (ent_gam (s := [.inr (.inr (some 0))]) rfl (gE_c ⟨by decide, by decide⟩ (gE_c hJ.1 gE_n)) rfl (gG_c ⟨by decide, lo_n hL (by decide), rg_at hL (by decide) (fun b => by cases b <;> rfl)⟩ (gG_c ⟨by decide, lo_n hL (by decide), rg_at hL (by decide) (fun b => by cases b <;> rfl)⟩ gG_n)) (gB_cons (gB_cons gB_n rfl ⟨dnM M, rfl, iz⟩) rfl ⟨115, rfl, hL.2.2.2.2.2.1 (113, 17, 115) (by decide)⟩) hL.1 hd ⟨rfl, trivial⟩ rfl)
theorem oMwhere_p : ∀ b : Bool, protB b ct_Mwhere.2.2.1 = true := by decide +kernel
theorem oMwhere_j : protJ ct_Mwhere.2.2.1 = true := by decide
theorem oMstate {cd : Nat → Nat → Option aI} (hct : ∀ m p o, ct m p = some o → cd m p = some (semO o)) {b : Bool} {rg : Nat → Nat} {M : aM} (hL : LB b rg M) (hJ : JM rg M) (x1 : Int32) {d : Nat} (hd : 1 ≤ d) : wpS cd (d, [], 194, 0, la 0 [.inr (.inr (some 113)), .inl x1], [], M) (cQ RR rg M [0, x1.toInt, dnM M] ct_Mstate) :=
  cc_Mstate hct (LB_sgl hL) (ms := msT) (by decide) [0, x1.toInt, dnM M] [113, 115] _ Fr_rf (ent_gam (s := [.inr (.inr (some 0)), .inl (1, 0)]) rfl (gE_c ⟨by decide, by decide⟩ (gE_c (i32_bd x1) (gE_c hJ.1 gE_n))) rfl (gG_c ⟨by decide, lo_n hL (by decide), rg_at hL (by decide) (fun b => by cases b <;> rfl)⟩ (gG_c ⟨by decide, lo_n hL (by decide), rg_at hL (by decide) (fun b => by cases b <;> rfl)⟩ gG_n)) (gB_cons (gB_cons gB_n rfl ⟨dnM M, rfl, iz⟩) rfl ⟨115, rfl, hL.2.2.2.2.2.1 (113, 17, 115) (by decide)⟩) hL.1 hd ⟨rfl, ⟨⟨_, rfl, iz⟩, trivial⟩⟩ rfl)
theorem oMstate_p : ∀ b : Bool, protB b ct_Mstate.2.2.1 = true := by decide +kernel
theorem oMstate_j : protJ ct_Mstate.2.2.1 = true := by decide
theorem oMled {cd : Nat → Nat → Option aI} (hct : ∀ m p o, ct m p = some o → cd m p = some (semO o)) {b : Bool} {rg : Nat → Nat} {M : aM} (hL : LB b rg M) (hJ : JM rg M) (x1 : Int32) {d : Nat} (hd : 1 ≤ d) : wpS cd (d, [], 241, 0, la 0 [.inr (.inr (some 113)), .inl x1], [], M) (cQ RR rg M [0, x1.toInt, dnM M] ct_Mled) :=
  cc_Mled hct (LB_sgl hL) (ms := msT) (by decide) [0, x1.toInt, dnM M] [113, 115] _ Fr_rf (ent_gam (s := [.inr (.inr (some 0)), .inl (1, 0)]) rfl (gE_c ⟨by decide, by decide⟩ (gE_c (i32_bd x1) (gE_c hJ.1 gE_n))) rfl (gG_c ⟨by decide, lo_n hL (by decide), rg_at hL (by decide) (fun b => by cases b <;> rfl)⟩ (gG_c ⟨by decide, lo_n hL (by decide), rg_at hL (by decide) (fun b => by cases b <;> rfl)⟩ gG_n)) (gB_cons (gB_cons gB_n rfl ⟨dnM M, rfl, iz⟩) rfl ⟨115, rfl, hL.2.2.2.2.2.1 (113, 17, 115) (by decide)⟩) hL.1 hd ⟨rfl, ⟨⟨_, rfl, iz⟩, trivial⟩⟩ rfl)
theorem oMled_p : ∀ b : Bool, protB b ct_Mled.2.2.1 = true := by decide +kernel
theorem oMled_j : protJ ct_Mled.2.2.1 = true := by decide
theorem oMrod_0 {cd : Nat → Nat → Option aI} (hct : ∀ m p o, ct m p = some o → cd m p = some (semO o)) {b : Bool} {rg : Nat → Nat} {M : aM} (hL : LB b rg M) (hJ : JM rg M) (hu : a_P M 113 3 = none) (x1 : Int32) (h1 : 0 ≤ x1.toInt ∧ x1.toInt ≤ 1) {d : Nat} (hd : 1 ≤ d) : wpS cd (d, [], 190, 0, la 0 [.inr (.inr (some 113)), .inl x1], [], M) (cQ RR rg M [0, x1.toInt, dnM M] ct_Mrod_0) :=
  cc_Mrod_0 hct (LB_sgl hL) (ms := msT) (by decide) [0, x1.toInt, dnM M] [113, 115] _ Fr_rf (ent_gam (s := [.inr (.inr (some 0)), .inl (1, 0)]) rfl (gE_c ⟨by decide, by decide⟩ (gE_c h1 (gE_c hJ.1 gE_n))) rfl (gG_c ⟨by decide, lo_n hL (by decide), rg_at hL (by decide) (fun b => by cases b <;> rfl)⟩ (gG_c ⟨by decide, lo_n hL (by decide), rg_at hL (by decide) (fun b => by cases b <;> rfl)⟩ gG_n)) (gB_cons (gB_cons (gB_cons gB_n rfl ⟨dnM M, rfl, iz⟩) rfl hu) rfl ⟨115, rfl, hL.2.2.2.2.2.1 (113, 17, 115) (by decide)⟩) hL.1 hd ⟨rfl, ⟨⟨_, rfl, iz⟩, trivial⟩⟩ rfl)
theorem oMrod_0_p : ∀ b : Bool, protB b ct_Mrod_0.2.2.1 = true := by decide +kernel
theorem oMrod_0_j : protJ ct_Mrod_0.2.2.1 = true := by decide
theorem oMrod_1 {cd : Nat → Nat → Option aI} (hct : ∀ m p o, ct m p = some o → cd m p = some (semO o)) {b : Bool} {rg : Nat → Nat} {M : aM} (hL : LB b rg M) (hJ : JM rg M) {u : Nat} (hu : a_P M 113 3 = some u) (hj : JS rg M u) (x1 : Int32) (h1 : 0 ≤ x1.toInt ∧ x1.toInt ≤ 1) {d : Nat} (hd : 2 ≤ d) : wpS cd (d, [], 190, 0, la 0 [.inr (.inr (some 113)), .inl x1], [], M) (cQ RR rg M [0, x1.toInt, dnM M] ct_Mrod_1) :=
  cc_Mrod_1 hct (LB_sgl hL) (ms := msT) (by decide) (cc_clears17 hct (LB_sgl hL) (by decide)) (cc_clears18 hct (LB_sgl hL) (by decide)) [0, x1.toInt, dnM M] [113, 115, u] _ Fr_rf (ent_gam (s := [.inr (.inr (some 0)), .inl (1, 0)]) rfl (gE_c ⟨by decide, by decide⟩ (gE_c h1 (gE_c hJ.1 gE_n))) rfl (gG_c ⟨by decide, lo_n hL (by decide), rg_at hL (by decide) (fun b => by cases b <;> rfl)⟩ (gG_c ⟨by decide, lo_n hL (by decide), rg_at hL (by decide) (fun b => by cases b <;> rfl)⟩ (gG_c ⟨by decide, hj.1, hj.2.1⟩ gG_n))) (gB_cons (gB_cons (gB_cons gB_n rfl ⟨dnM M, rfl, iz⟩) rfl ⟨u, rfl, hu⟩) rfl ⟨115, rfl, hL.2.2.2.2.2.1 (113, 17, 115) (by decide)⟩) hL.1 hd ⟨rfl, ⟨⟨_, rfl, iz⟩, trivial⟩⟩ rfl)
theorem oMrod_1_p : ∀ b : Bool, protB b ct_Mrod_1.2.2.1 = true := by decide +kernel
theorem oMdrill_0 {cd : Nat → Nat → Option aI} (hct : ∀ m p o, ct m p = some o → cd m p = some (semO o)) {b : Bool} {rg : Nat → Nat} {M : aM} (hL : LB b rg M) (hJ : JM rg M) (hu : a_P M 113 3 = none) (x1 : Int32) {d : Nat} (hd : 1 ≤ d) : wpS cd (d, [], 191, 0, la 0 [.inr (.inr (some 113)), .inl x1], [], M) (cQ RR rg M [0, x1.toInt, dnM M] ct_Mdrill_0) :=
  cc_Mdrill_0 hct (LB_sgl hL) (ms := msT) (by decide) [0, x1.toInt, dnM M] [113, 115] _ Fr_rf (ent_gam (s := [.inr (.inr (some 0)), .inl (1, 0)]) rfl (gE_c ⟨by decide, by decide⟩ (gE_c (i32_bd x1) (gE_c hJ.1 gE_n))) rfl (gG_c ⟨by decide, lo_n hL (by decide), rg_at hL (by decide) (fun b => by cases b <;> rfl)⟩ (gG_c ⟨by decide, lo_n hL (by decide), rg_at hL (by decide) (fun b => by cases b <;> rfl)⟩ gG_n)) (gB_cons (gB_cons (gB_cons gB_n rfl ⟨dnM M, rfl, iz⟩) rfl hu) rfl ⟨115, rfl, hL.2.2.2.2.2.1 (113, 17, 115) (by decide)⟩) hL.1 hd ⟨rfl, ⟨⟨_, rfl, iz⟩, trivial⟩⟩ rfl)
theorem oMdrill_0_p : ∀ b : Bool, protB b ct_Mdrill_0.2.2.1 = true := by decide +kernel
theorem oMdrill_0_j : protJ ct_Mdrill_0.2.2.1 = true := by decide
theorem oModds_0 {cd : Nat → Nat → Option aI} (hct : ∀ m p o, ct m p = some o → cd m p = some (semO o)) {b : Bool} {rg : Nat → Nat} {M : aM} (hL : LB b rg M) (hJ : JM rg M) (hu : a_P M 113 3 = none) (x1 x2 : Int32) {d : Nat} (hd : 1 ≤ d) : wpS cd (d, [], 199, 0, la 0 [.inr (.inr (some 113)), .inl x1, .inl x2], [], M) (cQ RR rg M [0, x1.toInt, x2.toInt, dnM M] ct_Modds_0) :=
  cc_Modds_0 hct (LB_sgl hL) (ms := msT) (by decide) [0, x1.toInt, x2.toInt, dnM M] [113, 115] _ Fr_rf (ent_gam (s := [.inr (.inr (some 0)), .inl (1, 0), .inl (2, 0)]) rfl (gE_c ⟨by decide, by decide⟩ (gE_c (i32_bd x1) (gE_c (i32_bd x2) (gE_c hJ.1 gE_n)))) rfl (gG_c ⟨by decide, lo_n hL (by decide), rg_at hL (by decide) (fun b => by cases b <;> rfl)⟩ (gG_c ⟨by decide, lo_n hL (by decide), rg_at hL (by decide) (fun b => by cases b <;> rfl)⟩ gG_n)) (gB_cons (gB_cons (gB_cons gB_n rfl ⟨dnM M, rfl, iz⟩) rfl hu) rfl ⟨115, rfl, hL.2.2.2.2.2.1 (113, 17, 115) (by decide)⟩) hL.1 hd ⟨rfl, ⟨⟨_, rfl, iz⟩, ⟨⟨_, rfl, iz⟩, trivial⟩⟩⟩ rfl)
theorem oModds_0_p : ∀ b : Bool, protB b ct_Modds_0.2.2.1 = true := by decide +kernel
theorem oModds_0_j : protJ ct_Modds_0.2.2.1 = true := by decide
theorem oMfewest_0 {cd : Nat → Nat → Option aI} (hct : ∀ m p o, ct m p = some o → cd m p = some (semO o)) {b : Bool} {rg : Nat → Nat} {M : aM} (hL : LB b rg M) (hJ : JM rg M) (hu : a_P M 113 3 = none) (x1 x2 : Int32) {d : Nat} (hd : 1 ≤ d) : wpS cd (d, [], 231, 0, la 0 [.inr (.inr (some 113)), .inl x1, .inl x2], [], M) (cQ RR rg M [0, x1.toInt, x2.toInt, dnM M] ct_Mfewest_0) :=
  cc_Mfewest_0 hct (LB_sgl hL) (ms := msT) (by decide) [0, x1.toInt, x2.toInt, dnM M] [113, 115] _ Fr_rf (ent_gam (s := [.inr (.inr (some 0)), .inl (1, 0), .inl (2, 0)]) rfl (gE_c ⟨by decide, by decide⟩ (gE_c (i32_bd x1) (gE_c (i32_bd x2) (gE_c hJ.1 gE_n)))) rfl (gG_c ⟨by decide, lo_n hL (by decide), rg_at hL (by decide) (fun b => by cases b <;> rfl)⟩ (gG_c ⟨by decide, lo_n hL (by decide), rg_at hL (by decide) (fun b => by cases b <;> rfl)⟩ gG_n)) (gB_cons (gB_cons (gB_cons gB_n rfl ⟨dnM M, rfl, iz⟩) rfl hu) rfl ⟨115, rfl, hL.2.2.2.2.2.1 (113, 17, 115) (by decide)⟩) hL.1 hd ⟨rfl, ⟨⟨_, rfl, iz⟩, ⟨⟨_, rfl, iz⟩, trivial⟩⟩⟩ rfl)
theorem oMfewest_0_p : ∀ b : Bool, protB b ct_Mfewest_0.2.2.1 = true := by decide +kernel
theorem oMfewest_0_j : protJ ct_Mfewest_0.2.2.1 = true := by decide
theorem getsC {cd : Nat → Nat → Option aI} (hct : ∀ m p o, ct m p = some o → cd m p = some (semO o)) {b : Bool} {rg : Nat → Nat} {M : aM} (hL : LB b rg M) (hJ : JM rg M) (n k : Nat) (h1 : 1 ≤ n) (h9 : n ≤ 9) (hk : k ≤ n) : yCtr cd RR rg M msT (getC n k) := by
  have hb := bor18 hct hL hJ
  have hc := cc_clears18 hct (LB_sgl hL) (ms := msT) (by decide)
  rcases (show n = 1 ∨ n = 2 ∨ n = 3 ∨ n = 4 ∨ n = 5 ∨ n = 6 ∨ n = 7 ∨ n = 8 ∨ n = 9 by omega) with rfl | rfl | rfl | rfl | rfl | rfl | rfl | rfl | rfl
  · rcases (show k = 0 ∨ k = 1 by omega) with rfl | rfl
    · rw [← ge_1_0]; exact cc_gets_1_0 hct (LB_sgl hL) (by decide) hb hc
    · rw [← ge_1_1]; exact cc_gets_1_1 hct (LB_sgl hL) (by decide) hb hc
  · rcases (show k = 0 ∨ k = 1 ∨ k = 2 by omega) with rfl | rfl | rfl
    · rw [← ge_2_0]; exact cc_gets_2_0 hct (LB_sgl hL) (by decide) hb hc
    · rw [← ge_2_1]; exact cc_gets_2_1 hct (LB_sgl hL) (by decide) hb hc
    · rw [← ge_2_2]; exact cc_gets_2_2 hct (LB_sgl hL) (by decide) hb hc
  · rcases (show k = 0 ∨ k = 1 ∨ k = 2 ∨ k = 3 by omega) with rfl | rfl | rfl | rfl
    · rw [← ge_3_0]; exact cc_gets_3_0 hct (LB_sgl hL) (by decide) hb hc
    · rw [← ge_3_1]; exact cc_gets_3_1 hct (LB_sgl hL) (by decide) hb hc
    · rw [← ge_3_2]; exact cc_gets_3_2 hct (LB_sgl hL) (by decide) hb hc
    · rw [← ge_3_3]; exact cc_gets_3_3 hct (LB_sgl hL) (by decide) hb hc
  · rcases (show k = 0 ∨ k = 1 ∨ k = 2 ∨ k = 3 ∨ k = 4 by omega) with rfl | rfl | rfl | rfl | rfl
    · rw [← ge_4_0]; exact cc_gets_4_0 hct (LB_sgl hL) (by decide) hb hc
    · rw [← ge_4_1]; exact cc_gets_4_1 hct (LB_sgl hL) (by decide) hb hc
    · rw [← ge_4_2]; exact cc_gets_4_2 hct (LB_sgl hL) (by decide) hb hc
    · rw [← ge_4_3]; exact cc_gets_4_3 hct (LB_sgl hL) (by decide) hb hc
    · rw [← ge_4_4]; exact cc_gets_4_4 hct (LB_sgl hL) (by decide) hb hc
  · rcases (show k = 0 ∨ k = 1 ∨ k = 2 ∨ k = 3 ∨ k = 4 ∨ k = 5 by omega) with rfl | rfl | rfl | rfl | rfl | rfl
    · rw [← ge_5_0]; exact cc_gets_5_0 hct (LB_sgl hL) (by decide) hb hc
    · rw [← ge_5_1]; exact cc_gets_5_1 hct (LB_sgl hL) (by decide) hb hc
    · rw [← ge_5_2]; exact cc_gets_5_2 hct (LB_sgl hL) (by decide) hb hc
    · rw [← ge_5_3]; exact cc_gets_5_3 hct (LB_sgl hL) (by decide) hb hc
    · rw [← ge_5_4]; exact cc_gets_5_4 hct (LB_sgl hL) (by decide) hb hc
    · rw [← ge_5_5]; exact cc_gets_5_5 hct (LB_sgl hL) (by decide) hb hc
  · rcases (show k = 0 ∨ k = 1 ∨ k = 2 ∨ k = 3 ∨ k = 4 ∨ k = 5 ∨ k = 6 by omega) with rfl | rfl | rfl | rfl | rfl | rfl | rfl
    · rw [← ge_6_0]; exact cc_gets_6_0 hct (LB_sgl hL) (by decide) hb hc
    · rw [← ge_6_1]; exact cc_gets_6_1 hct (LB_sgl hL) (by decide) hb hc
    · rw [← ge_6_2]; exact cc_gets_6_2 hct (LB_sgl hL) (by decide) hb hc
    · rw [← ge_6_3]; exact cc_gets_6_3 hct (LB_sgl hL) (by decide) hb hc
    · rw [← ge_6_4]; exact cc_gets_6_4 hct (LB_sgl hL) (by decide) hb hc
    · rw [← ge_6_5]; exact cc_gets_6_5 hct (LB_sgl hL) (by decide) hb hc
    · rw [← ge_6_6]; exact cc_gets_6_6 hct (LB_sgl hL) (by decide) hb hc
  · rcases (show k = 0 ∨ k = 1 ∨ k = 2 ∨ k = 3 ∨ k = 4 ∨ k = 5 ∨ k = 6 ∨ k = 7 by omega) with rfl | rfl | rfl | rfl | rfl | rfl | rfl | rfl
    · rw [← ge_7_0]; exact cc_gets_7_0 hct (LB_sgl hL) (by decide) hb hc
    · rw [← ge_7_1]; exact cc_gets_7_1 hct (LB_sgl hL) (by decide) hb hc
    · rw [← ge_7_2]; exact cc_gets_7_2 hct (LB_sgl hL) (by decide) hb hc
    · rw [← ge_7_3]; exact cc_gets_7_3 hct (LB_sgl hL) (by decide) hb hc
    · rw [← ge_7_4]; exact cc_gets_7_4 hct (LB_sgl hL) (by decide) hb hc
    · rw [← ge_7_5]; exact cc_gets_7_5 hct (LB_sgl hL) (by decide) hb hc
    · rw [← ge_7_6]; exact cc_gets_7_6 hct (LB_sgl hL) (by decide) hb hc
    · rw [← ge_7_7]; exact cc_gets_7_7 hct (LB_sgl hL) (by decide) hb hc
  · rcases (show k = 0 ∨ k = 1 ∨ k = 2 ∨ k = 3 ∨ k = 4 ∨ k = 5 ∨ k = 6 ∨ k = 7 ∨ k = 8 by omega) with rfl | rfl | rfl | rfl | rfl | rfl | rfl | rfl | rfl
    · rw [← ge_8_0]; exact cc_gets_8_0 hct (LB_sgl hL) (by decide) hb hc
    · rw [← ge_8_1]; exact cc_gets_8_1 hct (LB_sgl hL) (by decide) hb hc
    · rw [← ge_8_2]; exact cc_gets_8_2 hct (LB_sgl hL) (by decide) hb hc
    · rw [← ge_8_3]; exact cc_gets_8_3 hct (LB_sgl hL) (by decide) hb hc
    · rw [← ge_8_4]; exact cc_gets_8_4 hct (LB_sgl hL) (by decide) hb hc
    · rw [← ge_8_5]; exact cc_gets_8_5 hct (LB_sgl hL) (by decide) hb hc
    · rw [← ge_8_6]; exact cc_gets_8_6 hct (LB_sgl hL) (by decide) hb hc
    · rw [← ge_8_7]; exact cc_gets_8_7 hct (LB_sgl hL) (by decide) hb hc
    · rw [← ge_8_8]; exact cc_gets_8_8 hct (LB_sgl hL) (by decide) hb hc
  · rcases (show k = 0 ∨ k = 1 ∨ k = 2 ∨ k = 3 ∨ k = 4 ∨ k = 5 ∨ k = 6 ∨ k = 7 ∨ k = 8 ∨ k = 9 by omega) with rfl | rfl | rfl | rfl | rfl | rfl | rfl | rfl | rfl | rfl
    · rw [← ge_9_0]; exact cc_gets_9_0 hct (LB_sgl hL) (by decide) hb hc
    · rw [← ge_9_1]; exact cc_gets_9_1 hct (LB_sgl hL) (by decide) hb hc
    · rw [← ge_9_2]; exact cc_gets_9_2 hct (LB_sgl hL) (by decide) hb hc
    · rw [← ge_9_3]; exact cc_gets_9_3 hct (LB_sgl hL) (by decide) hb hc
    · rw [← ge_9_4]; exact cc_gets_9_4 hct (LB_sgl hL) (by decide) hb hc
    · rw [← ge_9_5]; exact cc_gets_9_5 hct (LB_sgl hL) (by decide) hb hc
    · rw [← ge_9_6]; exact cc_gets_9_6 hct (LB_sgl hL) (by decide) hb hc
    · rw [← ge_9_7]; exact cc_gets_9_7 hct (LB_sgl hL) (by decide) hb hc
    · rw [← ge_9_8]; exact cc_gets_9_8 hct (LB_sgl hL) (by decide) hb hc
    · rw [← ge_9_9]; exact cc_gets_9_9 hct (LB_sgl hL) (by decide) hb hc

theorem oModds {cd : Nat → Nat → Option aI} (hct : ∀ m p o, ct m p = some o → cd m p = some (semO o)) {b : Bool} {rg : Nat → Nat} {M : aM} (hL : LB b rg M) (hJ : JM rg M) {u : Nat} (hu : a_P M 113 3 = some u) (hj : JS rg M u) (x1 x2 : Int32) {d : Nat} (hd : 3 ≤ d) : wpS cd (d, [], 199, 0, la 0 [.inr (.inr (some 113)), .inl x1, .inl x2], [], M) (cQ RR rg M [0, x1.toInt, x2.toInt, dnM M] ct_Modds) :=
  cc_Modds hct (LB_sgl hL) (ms := msT) (by decide) (cc_getsG (getsC hct hL hJ)) [0, x1.toInt, x2.toInt, dnM M] [113, 115, u] _ Fr_rf (ent_gam (s := [.inr (.inr (some 0)), .inl (1, 0), .inl (2, 0)]) rfl (gE_c ⟨by decide, by decide⟩ (gE_c (i32_bd x1) (gE_c (i32_bd x2) (gE_c hJ.1 gE_n)))) rfl (gG_c ⟨by decide, lo_n hL (by decide), rg_at hL (by decide) (fun b => by cases b <;> rfl)⟩ (gG_c ⟨by decide, lo_n hL (by decide), rg_at hL (by decide) (fun b => by cases b <;> rfl)⟩ (gG_c ⟨by decide, hj.1, hj.2.1⟩ gG_n))) (gB_cons (gB_cons (gB_cons gB_n rfl ⟨dnM M, rfl, iz⟩) rfl ⟨u, rfl, hu⟩) rfl ⟨115, rfl, hL.2.2.2.2.2.1 (113, 17, 115) (by decide)⟩) hL.1 hd ⟨rfl, ⟨⟨_, rfl, iz⟩, ⟨⟨_, rfl, iz⟩, trivial⟩⟩⟩ rfl)
theorem oModds_p : ∀ b : Bool, protB b ct_Modds.2.2.1 = true := by decide +kernel
theorem oModds_j : protJ ct_Modds.2.2.1 = true := by decide
theorem oMdrill {cd : Nat → Nat → Option aI} (hct : ∀ m p o, ct m p = some o → cd m p = some (semO o)) {b : Bool} {rg : Nat → Nat} {M : aM} (hL : LB b rg M) (hJ : JM rg M) {u : Nat} (hu : a_P M 113 3 = some u) (hj : JS rg M u) {v : Int} (hv : v ∈ vl_Mdrill) (hin : (a_I M u 0).toInt = v) (x1 : Int32) {d : Nat} (hd : 2 ≤ d) : wpS cd (d, [], 191, 0, la 0 [.inr (.inr (some 113)), .inl x1], [], M) (cQ RR rg M [0, x1.toInt, dnM M] (ct_Mdrill v)) :=
  cc_Mdrill hv hct (LB_sgl hL) (ms := msT) rfl (bor17 hct hL hJ) [0, x1.toInt, dnM M] [113, 115, u] _ Fr_rf (ent_gam (s := [.inr (.inr (some 0)), .inl (1, 0)]) rfl (gE_c ⟨by decide, by decide⟩ (gE_c (i32_bd x1) (gE_c ⟨hJ.1.1, by rw [← hin]; exact hj.2.2.1⟩ gE_n))) rfl (gG_c ⟨by decide, lo_n hL (by decide), rg_at hL (by decide) (fun b => by cases b <;> rfl)⟩ (gG_c ⟨by decide, lo_n hL (by decide), rg_at hL (by decide) (fun b => by cases b <;> rfl)⟩ (gG_c ⟨by decide, hj.1, hj.2.1⟩ gG_n))) (gB_cons (gB_cons (gB_cons (gB_cons gB_n rfl ⟨dnM M, rfl, iz⟩) rfl ⟨0, rfl, by rw [hin]; exact (Int.zero_add v).symm⟩) rfl ⟨u, rfl, hu⟩) rfl ⟨115, rfl, hL.2.2.2.2.2.1 (113, 17, 115) (by decide)⟩) hL.1 hd ⟨rfl, ⟨⟨_, rfl, iz⟩, trivial⟩⟩ rfl)
theorem oMdrill_p (v : Int) : ∀ b : Bool, protB b (ct_Mdrill v).2.2.1 = true := fun b => by cases b <;> rfl
theorem oMfewest_3 {cd : Nat → Nat → Option aI} (hct : ∀ m p o, ct m p = some o → cd m p = some (semO o)) {b : Bool} {rg : Nat → Nat} {M : aM} (hL : LB b rg M) (hJ : JM rg M) {u : Nat} (hu : a_P M 113 3 = some u) (hj : JS rg M u) (hdn : (a_I M 115 7).toInt = 3) (x1 x2 : Int32) {d : Nat} (hd : 6 ≤ d) : wpS cd (d, [], 231, 0, la 0 [.inr (.inr (some 113)), .inl x1, .inl x2], [], M) (cQ RR rg M [0, x1.toInt, x2.toInt] ct_Mfewest_3) :=
  cc_Mfewest_3 hct (LB_sgl hL) (ms := msT) (by decide) (cc_strikes_3 hct (LB_sgl hL) (by decide)) [0, x1.toInt, x2.toInt] [113, 115, u] _ Fr_rf (ent_gam (s := [.inr (.inr (some 0)), .inl (1, 0), .inl (2, 0)]) rfl (gE_c ⟨by decide, by decide⟩ (gE_c (i32_bd x1) (gE_c (i32_bd x2) gE_n))) rfl (gG_c ⟨by decide, lo_n hL (by decide), rg_at hL (by decide) (fun b => by cases b <;> rfl)⟩ (gG_c ⟨by decide, lo_n hL (by decide), rg_at hL (by decide) (fun b => by cases b <;> rfl)⟩ (gG_c ⟨by decide, hj.1, hj.2.1⟩ gG_n))) (gB_cons (gB_cons (gB_cons gB_n rfl ⟨0, rfl, by rw [hdn]; rfl⟩) rfl ⟨u, rfl, hu⟩) rfl ⟨115, rfl, hL.2.2.2.2.2.1 (113, 17, 115) (by decide)⟩) hL.1 hd ⟨rfl, ⟨⟨_, rfl, iz⟩, ⟨⟨_, rfl, iz⟩, trivial⟩⟩⟩ rfl)
theorem oMfewest_3_p : ∀ b : Bool, protB b ct_Mfewest_3.2.2.1 = true := by decide +kernel
theorem oMfewest_3_j : protJ ct_Mfewest_3.2.2.1 = true := by decide
theorem oMfewest {cd : Nat → Nat → Option aI} (hct : ∀ m p o, ct m p = some o → cd m p = some (semO o)) {b : Bool} {rg : Nat → Nat} {M : aM} (hL : LB b rg M) (hJ : JM rg M) {u : Nat} (hu : a_P M 113 3 = some u) (hj : JS rg M u) {v : Int} (hv : v ∈ vl_Mfewest) (hdn : (a_I M 115 7).toInt = v) (x1 x2 : Int32) {d : Nat} (hd : 6 ≤ d) : wpS cd (d, [], 231, 0, la 0 [.inr (.inr (some 113)), .inl x1, .inl x2], [], M) (cQ RR rg M [0, x1.toInt, x2.toInt] (ct_Mfewest v)) :=
  cc_Mfewest hv hct (LB_sgl hL) (ms := msT) rfl (cc_strikes (v := v) hv hct (LB_sgl hL) rfl) [0, x1.toInt, x2.toInt] [113, 115, u] _ Fr_rf (ent_gam (s := [.inr (.inr (some 0)), .inl (1, 0), .inl (2, 0)]) rfl (gE_c ⟨by decide, by decide⟩ (gE_c (i32_bd x1) (gE_c (i32_bd x2) gE_n))) rfl (gG_c ⟨by decide, lo_n hL (by decide), rg_at hL (by decide) (fun b => by cases b <;> rfl)⟩ (gG_c ⟨by decide, lo_n hL (by decide), rg_at hL (by decide) (fun b => by cases b <;> rfl)⟩ (gG_c ⟨by decide, hj.1, hj.2.1⟩ gG_n))) (gB_cons (gB_cons (gB_cons gB_n rfl ⟨0, rfl, by rw [hdn]; exact (Int.zero_add v).symm⟩) rfl ⟨u, rfl, hu⟩) rfl ⟨115, rfl, hL.2.2.2.2.2.1 (113, 17, 115) (by decide)⟩) hL.1 hd ⟨rfl, ⟨⟨_, rfl, iz⟩, ⟨⟨_, rfl, iz⟩, trivial⟩⟩⟩ rfl)
theorem oMfewest_p (v : Int) : ∀ b : Bool, protB b (ct_Mfewest v).2.2.1 = true := fun b => by cases b <;> rfl
theorem oMfewest_j (v : Int) : protJ (ct_Mfewest v).2.2.1 = true := rfl
theorem oMfewest_s {cd : Nat → Nat → Option aI} (hct : ∀ m p o, ct m p = some o → cd m p = some (semO o)) {b : Bool} {rg : Nat → Nat} {M : aM} (hL : LB b rg M) (hJ : JM rg M) {u : Nat} (hu : a_P M 113 3 = some u) (hj : JS rg M u) (hdr : 0 ≤ dnM M ∧ dnM M ≤ 2) (x1 x2 : Int32) {d : Nat} (hd : 1 ≤ d) : wpS cd (d, [], 231, 0, la 0 [.inr (.inr (some 113)), .inl x1, .inl x2], [], M) (cQ RR rg M [0, x1.toInt, x2.toInt, dnM M] ct_Mfewest_s) :=
  cc_Mfewest_s hct (LB_sgl hL) (ms := msT) (by decide) [0, x1.toInt, x2.toInt, dnM M] [113, 115, u] _ Fr_rf (ent_gam (s := [.inr (.inr (some 0)), .inl (1, 0), .inl (2, 0)]) rfl (gE_c ⟨by decide, by decide⟩ (gE_c (i32_bd x1) (gE_c (i32_bd x2) (gE_c hdr gE_n)))) rfl (gG_c ⟨by decide, lo_n hL (by decide), rg_at hL (by decide) (fun b => by cases b <;> rfl)⟩ (gG_c ⟨by decide, lo_n hL (by decide), rg_at hL (by decide) (fun b => by cases b <;> rfl)⟩ (gG_c ⟨by decide, hj.1, hj.2.1⟩ gG_n))) (gB_cons (gB_cons (gB_cons gB_n rfl ⟨dnM M, rfl, iz⟩) rfl ⟨u, rfl, hu⟩) rfl ⟨115, rfl, hL.2.2.2.2.2.1 (113, 17, 115) (by decide)⟩) hL.1 hd ⟨rfl, ⟨⟨_, rfl, iz⟩, ⟨⟨_, rfl, iz⟩, trivial⟩⟩⟩ rfl)
theorem oMfewest_s_p : ∀ b : Bool, protB b ct_Mfewest_s.2.2.1 = true := by decide +kernel
theorem oMfewest_s_j : protJ ct_Mfewest_s.2.2.1 = true := by decide
theorem oMdrill_b {cd : Nat → Nat → Option aI} (hct : ∀ m p o, ct m p = some o → cd m p = some (semO o)) {b : Bool} {rg : Nat → Nat} {M : aM} (hL : LB b rg M) (hJ : JM rg M) {u : Nat} (hu : a_P M 113 3 = some u) (hj : JS rg M u) (hb9 : 1 ≤ (a_I M 113 31).toInt ∧ (a_I M 113 31).toInt ≤ 20) (x1 : Int32) {d : Nat} (hd : 1 ≤ d) : wpS cd (d, [], 191, 0, la 0 [.inr (.inr (some 113)), .inl x1], [], M) (cQ RR rg M [0, x1.toInt, dnM M, (a_I M 113 31).toInt] ct_Mdrill_b) :=
  cc_Mdrill_b hct (LB_sgl hL) (ms := msT) (by decide) [0, x1.toInt, dnM M, (a_I M 113 31).toInt] [113, 115, u] _ Fr_rf (ent_gam (s := [.inr (.inr (some 0)), .inl (1, 0)]) rfl (gE_c ⟨by decide, by decide⟩ (gE_c (i32_bd x1) (gE_c hJ.1 (gE_c hb9 gE_n)))) rfl (gG_c ⟨by decide, lo_n hL (by decide), rg_at hL (by decide) (fun b => by cases b <;> rfl)⟩ (gG_c ⟨by decide, lo_n hL (by decide), rg_at hL (by decide) (fun b => by cases b <;> rfl)⟩ (gG_c ⟨by decide, hj.1, hj.2.1⟩ gG_n))) (gB_cons (gB_cons (gB_cons (gB_cons gB_n rfl ⟨(a_I M 113 31).toInt, rfl, iz⟩) rfl ⟨dnM M, rfl, iz⟩) rfl ⟨u, rfl, hu⟩) rfl ⟨115, rfl, hL.2.2.2.2.2.1 (113, 17, 115) (by decide)⟩) hL.1 hd ⟨rfl, ⟨⟨_, rfl, iz⟩, trivial⟩⟩ rfl)
theorem oMdrill_b_p : ∀ b : Bool, protB b ct_Mdrill_b.2.2.1 = true := by decide +kernel
theorem oMdrill_b_j : protJ ct_Mdrill_b.2.2.1 = true := by decide

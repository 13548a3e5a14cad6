/-! blow and heat of the reference: printed by wip/gen/hand.py -/
def nvU_K (a : Nat) : Nat := bif Nat.beq a 137 then 13 else nvB_K a
def nvU_P (a k : Nat) : Option (Option Nat) := bif Nat.beq a 113 && Nat.beq k 3 then some (some 137) else nvB_P a k
def nvU : nv_T := (nvU_K, nvB_N, nvU_P)
def nvO_P (a k : Nat) : Option (Option Nat) := bif Nat.beq a 113 && Nat.beq k 3 then some none else nvB_P a k
def nvO : nv_T := (nvB_K, nvB_N, nvO_P)
theorem nvO_A {τ : Nat → Nat} {M : aM} (h : nv_A nvB τ M) (h3 : a_P M 113 3 = none) : nv_A nvO τ M := by
  refine ⟨h.1, h.2.1, fun a k r e => ?_⟩
  have e : nvO_P a k = some r := e
  unfold nvO_P at e
  cases hb : (Nat.beq a 113 && Nat.beq k 3) with
  | true =>
    rw [hb] at e
    obtain ⟨b1, b2⟩ := (Bool.and_eq_true _ _).mp hb
    cases e
    rw [nbT b1, nbT b2, nv_lo (by omega)]
    exact h3
  | false => rw [hb] at e; exact h.2.2 a k r e
theorem nvU_A {u : Nat} {M : aM} (h : nv_A nvB (tauN u) M) (h3 : a_P M 113 3 = some u) (hu : u < a_n M) (hk : a_K M u = 12) : nv_A nvU (tauN u) M := by
  refine ⟨fun a c e => ?_, h.2.1, fun a k r e => ?_⟩
  · have e : nvU_K a = c + 1 := e
    unfold nvU_K at e
    cases hb : Nat.beq a 137 with
    | true =>
      rw [hb] at e
      have e : 13 = c + 1 := e
      rw [nbT hb, show (137 : Nat) = 137 + 0 from rfl, nv_hi (by omega), Nat.add_zero]
      exact ⟨hu, by omega⟩
    | false => rw [hb] at e; exact h.1 a c e
  · have e : nvU_P a k = some r := e
    unfold nvU_P at e
    cases hb : (Nat.beq a 113 && Nat.beq k 3) with
    | true =>
      rw [hb] at e
      obtain ⟨b1, b2⟩ := (Bool.and_eq_true _ _).mp hb
      cases e
      rw [nbT b1, nbT b2, nv_lo (by omega), h3]
      show some u = some (nv_s (tauN u) (137 + 0))
      rw [nv_hi (by omega), Nat.add_zero]
    | false => rw [hb] at e; exact h.2.2 a k r e
theorem LB_nvU {b : Bool} {rg : Nat → Nat} {M : aM} {u : Nat} (hL : LB b rg M) (h3 : a_P M 113 3 = some u) (hj : JS rg M u) : nv_A nvU (tauN u) M := nvU_A (LB_nv hL) h3 hj.1 (by
  have := (hL.1.2 u hj.1).1
  rw [this, hj.2.1]
  rfl)
theorem nvU_B {τ : Nat → Nat} {M : aM} (h : nv_A nvU τ M) : nv_A nvB τ M := by
  refine ⟨fun a c e => ?_, h.2.1, fun a k r e => ?_⟩
  · refine h.1 a c ?_
    show nvU_K a = c + 1
    unfold nvU_K
    rw [nbF (fun q => by rw [q] at e; cases e)]
    exact e
  · refine h.2.2 a k r ?_
    show nvU_P a k = some r
    unfold nvU_P
    cases hb : (Nat.beq a 113 && Nat.beq k 3) with
    | true =>
      obtain ⟨b1, b2⟩ := (Bool.and_eq_true _ _).mp hb
      rw [nbT b1, nbT b2] at e
      cases e
    | false => exact e
/-- what a call by hand keeps -/
def HP (b : Bool) (rg : Nat → Nat) (L : List (Nat × Nat)) (M M' : aM) : Prop := LB b rg M' ∧ JM rg M' ∧ Fr RR (msL L) rg M M'
def HQ (b : Bool) (rg : Nat → Nat) (L : List (Nat × Nat)) (M M' : aM) : Prop := HP b rg L M M' ∧ a_I M' 113 2 = -1
theorem Fr_s9 {R : yR} {ms : Nat → Nat → Bool} {rg : Nat → Nat} {M M1 : aM} {x y : Nat} {v : Int32} (h : Fr R ms rg M M1) (hm : ms (rg x) (ysi R (rg x) y) = true) : Fr R ms rg M (s_I M1 x y v) := by
  refine ⟨h.1, h.2.1, h.2.2.1, fun a k hk => ?_⟩
  obtain ⟨p1, p2, p3⟩ := h.2.2.2 a k hk
  refine ⟨?_, p2, p3⟩
  rw [aI_nk (fun e => by rw [e.1, e.2, hm] at hk; cases hk)]
  exact p1
theorem HP_rf {b : Bool} {rg : Nat → Nat} {L : List (Nat × Nat)} {M : aM} (hL : LB b rg M) (hJ : JM rg M) : HP b rg L M M := ⟨hL, hJ, Fr_rf⟩
/-- JM but its blows -/
def JN (rg : Nat → Nat) (M : aM) : Prop := (0 ≤ dnM M ∧ dnM M ≤ 30) ∧ (a_P M 113 3 = none ∨ ∃ u, a_P M 113 3 = some u ∧ JS rg M u)
theorem JN_s {rg : Nat → Nat} {M : aM} {x y : Nat} {v : Int32} (h : JN rg M) (h1 : rg x ≠ 12) (h2 : rg x ≠ 643) (h3 : ¬ (x = 115 ∧ y = 7)) : JN rg (s_I M x y v) := by
  obtain ⟨j1, j2⟩ := h
  have hd : dnM (s_I M x y v) = dnM M := by unfold dnM; rw [aI_nk (fun e => h3 ⟨e.1.symm, e.2.symm⟩)]
  refine ⟨by rw [hd]; exact j1, ?_⟩
  rcases j2 with e | ⟨u, e, u1, u2, u3, fr, u4, u5, u6, u7⟩
  · exact Or.inl e
  · refine Or.inr ⟨u, e, u1, u2, ?_, fr, u4, u5, ?_, fun w hw hr9 i hi => ?_⟩
    · rw [hd, aI_nk (fun q => h1 (by rw [← q.1]; exact u2))]; exact u3
    · rw [aI_nk (fun q => h1 (by rw [← q.1]; exact u2))]; exact u6
    · rw [aI_nk (fun q => h2 (by rw [← q.1]; exact hr9))]; exact u7 w hw hr9 i hi
theorem HP_s {b : Bool} {rg : Nat → Nat} {L : List (Nat × Nat)} {M M' : aM} {x y : Nat} {v : Int32} (h : HP b rg L M M') (hx : x < 137) (hv : (b : Bool) → freeT (ysl RR (rgP b x) y) = true ∨ ∃ lo hi, ysl RR (rgP b x) y = .inl (lo, hi) ∧ lo ≤ v.toInt ∧ v.toInt ≤ hi) (hl : ∀ b, msL L (rgP b x) (ysi RR (rgP b x) y) = true) (hr : ∀ b, rgP b x ≠ 12 ∧ rgP b x ≠ 643) (h1 : ¬ (x = 115 ∧ y = 7)) (h2 : ¬ (x = 113 ∧ y = 31)) (h3 : x ≠ 127) : HP b rg L M (s_I M' x y v) := by
  obtain ⟨g1, ⟨g2, g3, g4⟩, g5⟩ := h
  have e := g1.2.1 x hx
  obtain ⟨q1, q2⟩ := JN_s (v := v) (y := y) ⟨g2, g3⟩ (by rw [e]; exact (hr b).1) (by rw [e]; exact (hr b).2) h1
  refine ⟨LB_s g1 hx hv, ⟨q1, q2, fun k hk => ?_⟩, Fr_s9 g5 (by rw [e]; exact hl b)⟩
  rw [aI_nk (fun e => h2 ⟨e.1.symm, e.2.symm⟩)] at hk
  have hd : dnM (s_I M' x y v) = dnM M' := by unfold dnM; rw [aI_nk (fun e => h1 ⟨e.1.symm, e.2.symm⟩)]
  rw [hd, aI_nk (fun e => h3 e.1.symm)]
  exact g4 k hk
theorem HP_113 {b : Bool} {rg : Nat → Nat} {L : List (Nat × Nat)} {M M' : aM} {y : Nat} {v : Int32} (h : HP b rg L M M') (hy : y ≤ 2) (hl : msL L 13 y = true) : HP b rg L M (s_I M' 113 y v) := by
  have e : ∀ b, rgP b 113 = 13 := fun b => by cases b <;> rfl
  refine HP_s h (by omega) (fun b => Or.inl ?_) (fun b => ?_) (fun b => ?_) (by omega) (by omega) (by omega)
  · rw [e]
    rcases (show y = 0 ∨ y = 1 ∨ y = 2 by omega) with rfl | rfl | rfl <;> rfl
  · rw [e]; exact hl
  · rw [e]; decide
theorem HQ_r {b : Bool} {rg : Nat → Nat} {L : List (Nat × Nat)} {M M' : aM} {v : Int32} (h : HP b rg L M M') (h1 : msL L 13 1 = true) (h2 : msL L 13 2 = true) : HQ b rg L M (s_I (s_I M' 113 1 v) 113 2 (-1)) := ⟨HP_113 (HP_113 h (by omega) h1) (by omega) h2, aI_at⟩
theorem HP_fr {b : Bool} {rg : Nat → Nat} {L L' : List (Nat × Nat)} {M M1 M2 : aM} (h : HP b rg L M M1) (hT9 : hT RR rg M2) (hF : Fr RR (msL L') rg M1 M2) (hs : L'.all (fun q => msL L q.1 q.2) = true) (p1 : ∀ b, protB b L' = true) (p2 : protJ L' = true) : HP b rg L M M2 := ⟨LB_fr h.1 hT9 hF (p1 b), JM_fr h.1 h.2.1 hF p2, Fr_tr h.2.2 hF (msL_sub hs)⟩
theorem sub_1 {x : Int32} {p : Int} (h : x.toInt = p) (h1 : -1000000000 ≤ p) (h2 : p ≤ 2000000000) : (x - 1).toInt = p - 1 := by
  rw [sub_i]
  · rw [h]; rfl
  · rw [h]; show (-2147483648 : Int) ≤ p - 1; omega
  · rw [h]; show p - 1 ≤ (2147483647 : Int); omega
theorem v_str {v : Int} (h1 : 4 ≤ v) (h2 : v ≤ 30) : v ∈ vl_strikes := by
  have : ∀ n : Fin 27, ((n.1 : Int) + 4) ∈ vl_strikes := by decide +kernel
  have := this ⟨(v - 4).toNat, by omega⟩
  simp only at this
  rw [show (((v - 4).toNat : Nat) : Int) + 4 = v by omega] at this
  exact this
theorem oMstrikes {cd : Nat → Nat → Option aI} (hct : ∀ m p o, ct m p = some o → cd m p = some (semO o)) {b : Bool} {rg : Nat → Nat} {M : aM} (hL : LB b rg M) (h3 : 3 ≤ dnM M) (h30 : dnM M ≤ 30) (x1 x2 x3 x4 : Int32) (h1 : 1 ≤ x1.toInt ∧ x1.toInt ≤ dnM M - 2) (h4 : 0 ≤ x4.toInt ∧ x4.toInt ≤ 1) {d : Nat} (hd : 2 ≤ d) : wpS cd (d, [], 225, 0, la 0 [.inr (.inr (some 113)), .inr (.inr (some 117)), .inr (.inr (some 118)), .inl x1, .inl x2, .inl x3, .inl x4], [], M) (fun r M' => r = none ∧ hT RR rg M' ∧ Fr RR (msL [(689, 0)]) rg M M') := by
  by_cases e : dnM M = 3
  · refine wpS_mono (cc_strikes_3 hct (LB_sgl hL) (ms := msT) (by decide) [0, x2.toInt, x3.toInt, x4.toInt] [113, 117, 118, 115] _ Fr_rf (ent_gam (s := [.inr (.inr (some 0)), .inr (.inr (some 1)), .inr (.inr (some 2)), .inl (0, 1), .inl (1, 0), .inl (2, 0), .inl (3, 0)]) rfl (gE_c ⟨by decide, by decide⟩ (gE_c (i32_bd x2) (gE_c (i32_bd x3) (gE_c h4 gE_n)))) rfl (gG_c ⟨by decide, lo_n hL (by decide), rg_at hL (by decide) (fun b => by cases b <;> rfl)⟩ (gG_c ⟨by decide, lo_n hL (by decide), rg_at hL (by decide) (fun b => by cases b <;> rfl)⟩ (gG_c ⟨by decide, lo_n hL (by decide), rg_at hL (by decide) (fun b => by cases b <;> rfl)⟩ (gG_c ⟨by decide, lo_n hL (by decide), rg_at hL (by decide) (fun b => by cases b <;> rfl)⟩ gG_n)))) (gB_cons (gB_cons gB_n rfl ⟨0, rfl, by show dnM M = _; omega⟩) rfl ⟨115, rfl, hL.2.2.2.2.2.1 (113, 17, 115) (by decide)⟩) hL.1 hd ⟨rfl, ⟨rfl, ⟨rfl, ⟨⟨0, rfl, by omega⟩, ⟨⟨_, rfl, iz⟩, ⟨⟨_, rfl, iz⟩, ⟨⟨_, rfl, iz⟩, trivial⟩⟩⟩⟩⟩⟩⟩ rfl)) (fun r M' h => ?_)
    obtain ⟨q1, q2, a, ha, hp⟩ := h
    have ha := List.mem_singleton.mp ha
    subst ha
    cases r with
    | none => exact ⟨rfl, q1, q2⟩
    | some r => exact (show False from hp.1).elim
  · refine wpS_mono (cc_strikes (v := dnM M) (v_str (by omega) h30) hct (LB_sgl hL) (ms := msT) rfl [0, x1.toInt, x2.toInt, x3.toInt, x4.toInt] [113, 117, 118, 115] _ Fr_rf (ent_gam (s := [.inr (.inr (some 0)), .inr (.inr (some 1)), .inr (.inr (some 2)), .inl (1, 0), .inl (2, 0), .inl (3, 0), .inl (4, 0)]) rfl (gE_c ⟨by decide, by decide⟩ (gE_c ⟨h1.1, by show _ ≤ dnM M + (-2); omega⟩ (gE_c (i32_bd x2) (gE_c (i32_bd x3) (gE_c h4 gE_n))))) rfl (gG_c ⟨by decide, lo_n hL (by decide), rg_at hL (by decide) (fun b => by cases b <;> rfl)⟩ (gG_c ⟨by decide, lo_n hL (by decide), rg_at hL (by decide) (fun b => by cases b <;> rfl)⟩ (gG_c ⟨by decide, lo_n hL (by decide), rg_at hL (by decide) (fun b => by cases b <;> rfl)⟩ (gG_c ⟨by decide, lo_n hL (by decide), rg_at hL (by decide) (fun b => by cases b <;> rfl)⟩ gG_n)))) (gB_cons (gB_cons gB_n rfl ⟨0, rfl, by show dnM M = _; omega⟩) rfl ⟨115, rfl, hL.2.2.2.2.2.1 (113, 17, 115) (by decide)⟩) hL.1 hd ⟨rfl, ⟨rfl, ⟨rfl, ⟨⟨_, rfl, iz⟩, ⟨⟨_, rfl, iz⟩, ⟨⟨_, rfl, iz⟩, ⟨⟨_, rfl, iz⟩, trivial⟩⟩⟩⟩⟩⟩⟩ rfl)) (fun r M' h => ?_)
    obtain ⟨q1, q2, a, ha, hp⟩ := h
    have ha := List.mem_singleton.mp ha
    subst ha
    cases r with
    | none => exact ⟨rfl, q1, q2⟩
    | some r => exact (show False from hp.1).elim
theorem LB_bl {b : Bool} {rg : Nat → Nat} {M : aM} (hL : LB b rg M) : 0 ≤ (a_I M 113 31).toInt ∧ (a_I M 113 31).toInt ≤ 20 := by
  have := (hL.1.2 113 (by have := hL.2.2.2.2.1; omega)).2.2 31 (by rw [hL.2.1 113 (by omega)]; cases b <;> decide)
  rw [hL.2.1 113 (by omega), show ysl RR (rgP b 113) 31 = .inl (0, 20) by cases b <;> rfl] at this
  exact this
theorem JM_u {rg : Nat → Nat} {M : aM} {u : Nat} (h : JM rg M) (hu : a_P M 113 3 = some u) : JS rg M u := by
  rcases h.2.1 with e | ⟨w, e, hw⟩
  · rw [e] at hu; cases hu
  · rw [e] at hu; cases hu; exact hw
def msBl : List (Nat × Nat) := [(13, 0), (13, 1), (13, 2), (13, 31), (689, 0), (702, 0), (703, 0), (704, 0)]
theorem rg_b (b : Bool) : (rgP b 127 = 702 ∧ rgP b 128 = 703) ∧ rgP b 129 = 704 ∧ rgP b 113 = 13 := by cases b <;> decide
theorem HP_blow {b : Bool} {rg : Nat → Nat} {M M2 : aM} {n : Nat} {x1 x2 x3 : Int32} (h2 : HP b rg msBl M M2) (hn : (a_I M2 113 31).toInt = (n : Int)) (h20 : n < 20) (hx : 1 ≤ x1.toInt ∧ x1.toInt ≤ dnM M2 - 2) : HP b rg msBl M (s_I (s_I (s_I (s_I M2 127 n x1) 128 n x2) 129 n x3) 113 31 (a_I M2 113 31 + 1)) := by
  obtain ⟨g1, ⟨g2, g3, g4⟩, g5⟩ := h2
  have hp := add_p hn (by omega) (by omega)
  have hr : ∀ x, x < 137 → rg x = rgP b x := g1.2.1
  obtain ⟨⟨r1, r2⟩, r3, r4⟩ := rg_b b
  have e1 : rg 127 = 702 := (hr 127 (by omega)).trans r1
  have e2 : rg 128 = 703 := (hr 128 (by omega)).trans r2
  have e3 : rg 129 = 704 := (hr 129 (by omega)).trans r3
  have e4 : rg 113 = 13 := (hr 113 (by omega)).trans r4
  have hN : JN rg (s_I (s_I (s_I (s_I M2 127 n x1) 128 n x2) 129 n x3) 113 31 (a_I M2 113 31 + 1)) := JN_s (JN_s (JN_s (JN_s ⟨g2, g3⟩ (by rw [e1]; decide) (by rw [e1]; decide) (by omega)) (by rw [e2]; decide) (by rw [e2]; decide) (by omega)) (by rw [e3]; decide) (by rw [e3]; decide) (by omega)) (by rw [e4]; decide) (by rw [e4]; decide) (by omega)
  have ty : ∀ (y : Nat) (b : Bool), freeT (ysl RR (rgP b 127) y) = true ∧ freeT (ysl RR (rgP b 128) y) = true ∧ freeT (ysl RR (rgP b 129) y) = true := fun y b => by
    rw [ysl_arr (r := rgP b 127) (by cases b <;> rfl), ysl_arr (r := rgP b 128) (by cases b <;> rfl), ysl_arr (r := rgP b 129) (by cases b <;> rfl)]
    cases b <;> decide
  refine ⟨LB_s (LB_s (LB_s (LB_s g1 (by omega) (fun b => Or.inl (ty n b).1)) (by omega) (fun b => Or.inl (ty n b).2.1)) (by omega) (fun b => Or.inl (ty n b).2.2)) (by omega) (fun b => Or.inr ⟨0, 20, by cases b <;> rfl, by rw [hp]; omega, by rw [hp]; omega⟩), ⟨hN.1, hN.2, fun k hk => ?_⟩, Fr_s9 (Fr_s9 (Fr_s9 (Fr_s9 g5 (by rw [e1]; rfl)) (by rw [e2]; rfl)) (by rw [e3]; rfl)) (by rw [e4]; rfl)⟩
  rw [aI_at, hp] at hk
  have hd : dnM (s_I (s_I (s_I (s_I M2 127 n x1) 128 n x2) 129 n x3) 113 31 (a_I M2 113 31 + 1)) = dnM M2 := by
    unfold dnM
    rw [aI_nk (by omega), aI_nk (by omega), aI_nk (by omega), aI_nk (by omega)]
  rw [hd, aI_nk (by omega), aI_nk (by omega), aI_nk (by omega)]
  by_cases e : k = n
  · rw [e, aI_at]; exact hx
  · rw [aI_nk (by omega)]
    exact g4 k (by rw [hn]; omega)
theorem HP_heat {b : Bool} {rg : Nat → Nat} {M M2 : aM} (h2 : HP b rg msBl M M2) : HP b rg msBl M (s_I M2 113 31 0) := by
  obtain ⟨g1, ⟨g2, g3, g4⟩, g5⟩ := h2
  obtain ⟨⟨r1, r2⟩, r3, r4⟩ := rg_b b
  have e4 : rg 113 = 13 := (g1.2.1 113 (by omega)).trans r4
  obtain ⟨q1, q2⟩ := JN_s (v := 0) (y := 31) ⟨g2, g3⟩ (x := 113) (by rw [e4]; decide) (by rw [e4]; decide) (by omega)
  refine ⟨LB_s g1 (by omega) (fun b => Or.inr ⟨0, 20, by cases b <;> rfl, by decide, by decide⟩), ⟨q1, q2, fun k hk => ?_⟩, Fr_s9 g5 (by rw [e4]; rfl)⟩
  rw [aI_at] at hk
  have : (k : Int) < 0 := hk
  omega
theorem r_inB {cd : Nat → Nat → Option aI} {z : Bool} (hz : ∀ m p i, cd0 z m p = some i → cd m p = some i) {τ : Nat → Nat} {M : aM} (hA : nv_A nvB τ M) {x lo hi : Int32} {d : Nat} : wpS cd (d, [], 156, 0, nv_l τ (la 0 [.inl x, .inl lo, .inl hi]), [], M) (fun r M' => ∃ y, r = some (.inl y) ∧ M' = M ∧ ((y = 1 ∧ lo.toInt ≤ x.toInt ∧ x.toInt ≤ hi.toInt) ∨ (y = 0 ∧ (x.toInt < lo.toInt ∨ hi.toInt < x.toInt)))) := by
  show wpS cd (nv_S τ (d, [], 156, 0, la 0 [.inl x, .inl lo, .inl hi], [], M)) _
  have hct := hc_of hz
  refine nv_cut hct nvB 156 2 5 (S' := (d, [], 156, 2, [(0, .inl x), (1, .inl lo), (2, .inl hi)], [.inl lo, .inl x], M)) hA rfl ?_
  by_cases c1 : x.toInt < lo.toInt
  · skip
    refine nv_ifc hct true rfl (ccT0 rfl rfl c1) ?_
    refine nv_cut hct nvB 156 15 4 (S' := (d, [], 156, 15, [(0, .inl x), (1, .inl lo), (2, .inl hi)], [.inl (0 : Int32)], M)) hA rfl ?_
    exact nv_iret hct rfl rfl ⟨_, rfl, rfl, Or.inr ⟨rfl, Or.inl c1⟩⟩
  · skip
    refine nv_ifc hct false rfl (ccF0 rfl rfl (by omega)) ?_
    refine nv_cut hct nvB 156 7 5 (S' := (d, [], 156, 7, [(0, .inl x), (1, .inl lo), (2, .inl hi)], [.inl hi, .inl x], M)) hA rfl ?_
    by_cases c2 : hi.toInt < x.toInt
    · skip
      refine nv_ifc hct true rfl (ccT3 rfl rfl c2) ?_
      refine nv_cut hct nvB 156 15 4 (S' := (d, [], 156, 15, [(0, .inl x), (1, .inl lo), (2, .inl hi)], [.inl (0 : Int32)], M)) hA rfl ?_
      exact nv_iret hct rfl rfl ⟨_, rfl, rfl, Or.inr ⟨rfl, Or.inr c2⟩⟩
    · skip
      refine nv_ifc hct false rfl (ccF3 rfl rfl (by omega)) ?_
      refine nv_cut hct nvB 156 15 5 (S' := (d, [], 156, 15, [(0, .inl x), (1, .inl lo), (2, .inl hi)], [.inl (1 : Int32)], M)) hA rfl ?_
      exact nv_iret hct rfl rfl ⟨_, rfl, rfl, Or.inl ⟨rfl, by omega, by omega⟩⟩
theorem r_blow0 {cd : Nat → Nat → Option aI} {z : Bool} (hz : ∀ m p i, cd0 z m p = some i → cd m p = some i) {b : Bool} {rg : Nat → Nat} {M : aM} (hL : LB b rg M) (hJ : JM rg M) (x1 x2 x3 : Int32) {τ : Nat → Nat} (hA : nv_A nvO τ M) {d : Nat} : wpS cd (d + 1, [], 226, 0, nv_l τ (la 0 [.inr (.inr (some 113)), .inl x1, .inl x2, .inl x3]), [], M) (fun r M' => ∃ y, r = some (.inl y) ∧ HQ b rg msBl M M') := by
  show wpS cd (nv_S τ (d + 1, [], 226, 0, la 0 [.inr (.inr (some 113)), .inl x1, .inl x2, .inl x3], [], M)) _
  have hct := hc_of hz
  refine nv_cut hct nvO 226 26 20 (S' := (d + 1, [], 226, 26, [(0, .inr (.inr (some 113))), (1, .inl x1), (2, .inl x2), (3, .inl x3)], [.inl (-1 : Int32)], (s_I (s_I (s_I M 113 0 (0 : Int32)) 113 1 (1 : Int32)) 113 2 (-1 : Int32)))) hA rfl ?_
  exact nv_iret hct rfl rfl ⟨_, rfl, HQ_r (HP_113 (HP_rf hL hJ) (by omega) rfl) rfl rfl⟩
set_option maxHeartbeats 4000000 in
theorem r_blow1 {cd : Nat → Nat → Option aI} {z : Bool} (hz : ∀ m p i, cd0 z m p = some i → cd m p = some i) {b : Bool} {rg : Nat → Nat} {M : aM} (hL : LB b rg M) (hJ : JM rg M) (x1 x2 x3 : Int32) {u : Nat} (hu : a_P M 113 3 = some u) {d : Nat} : wpS cd (d + 3, [], 226, 0, nv_l (tauN u) (la 0 [.inr (.inr (some 113)), .inl x1, .inl x2, .inl x3]), [], M) (fun r M' => ∃ y, r = some (.inl y) ∧ HQ b rg msBl M M') := by
  show wpS cd (nv_S (tauN u) (d + 3, [], 226, 0, la 0 [.inr (.inr (some 113)), .inl x1, .inl x2, .inl x3], [], M)) _
  have hct := hc_of hz
  have hA := LB_nvU hL hu (JM_u hJ hu)
  have h0 : HP b rg msBl M (s_I M 113 0 0) := HP_113 (HP_rf hL hJ) (by omega) rfl
  have h7 : (a_I M 115 (7 : Int32).toNatClampNeg).toInt = dnM M := rfl
  have hj1 := hJ.1
  refine nv_cut hct nvU 156 0 13 (S' := (d + 2, [(226, 18, [(0, .inr (.inr (some 113))), (1, .inl x1), (2, .inl x2), (3, .inl x3)], [])], 156, 0, la 0 [.inl x2, .inl (0 : Int32), .inl (3 : Int32)], [], (s_I M 113 0 (0 : Int32)))) hA rfl ?_
  refine nv_calli (r_inB hz (nvU_B (nv_As hA))) (fun y1 Ny1 ⟨ey1, cy1⟩ => ?_)
  subst ey1
  rcases cy1 with ⟨ey1, cy1⟩ | ⟨ey1, cy1⟩
  · skip
    subst ey1
    refine nv_cut hct nvU 217 6 9 (S' := (d + 2, [(226, 31, [(0, .inr (.inr (some 113))), (1, .inl x1), (2, .inl x2), (3, .inl x3)], [])], 217, 6, [(0, .inr (.inr (some 113)))], [.inl (7 : Int32), .inr (.inr (some 115))], (s_I M 113 0 (0 : Int32)))) (nv_As hA) rfl ?_
    refine nv_ald hct (nv_As hA) rfl (show nvU.1 115 = 15 + 1 from rfl) (show nvU.2.1 115 = 10 + 1 from rfl) rfl ?_
    refine nv_cut hct nvU 217 8 4 (S' := (d + 2, [(226, 31, [(0, .inr (.inr (some 113))), (1, .inl x1), (2, .inl x2), (3, .inl x3)], [])], 217, 8, [(0, .inr (.inr (some 113)))], [.inl (3 : Int32), .inl (a_I M 115 (7 : Int32).toNatClampNeg)], (s_I M 113 0 (0 : Int32)))) (nv_As hA) rfl ?_
    by_cases c3 : dnM M < 3
    · skip
      refine nv_ifc hct false rfl (ccF4 h7 (show ((3 : Int32)).toInt = 3 from rfl) (by omega)) ?_
      refine nv_cut hct nvU 226 39 18 (S' := (d + 3, [], 226, 39, [(0, .inr (.inr (some 113))), (1, .inl x1), (2, .inl x2), (3, .inl x3)], [.inl (-1 : Int32)], (s_I (s_I (s_I M 113 0 (0 : Int32)) 113 1 (5 : Int32)) 113 2 (-1 : Int32)))) (nv_As hA) rfl ?_
      exact nv_iret hct rfl rfl ⟨_, rfl, HQ_r h0 rfl rfl⟩
    · skip
      refine nv_ifc hct true rfl (ccT4 h7 (show ((3 : Int32)).toInt = 3 from rfl) (by omega)) ?_
      refine nv_cut hct nvU 215 6 13 (S' := (d + 2, [(226, 46, [(0, .inr (.inr (some 113))), (1, .inl x1), (2, .inl x2), (3, .inl x3)], [.inl (1 : Int32), .inl x1])], 215, 6, [(0, .inr (.inr (some 113)))], [.inl (7 : Int32), .inr (.inr (some 115))], (s_I M 113 0 (0 : Int32)))) (nv_As hA) rfl ?_
      refine nv_ald hct (nv_As hA) rfl (show nvU.1 115 = 15 + 1 from rfl) (show nvU.2.1 115 = 10 + 1 from rfl) rfl ?_
      have hl : ((a_I M 115 (7 : Int32).toNatClampNeg - 1) - 1).toInt = dnM M - 1 - 1 := sub_1 (sub_1 h7 (by omega) (by omega)) (by omega) (by omega)
      refine nv_cut hct nvU 156 0 9 (S' := (d + 2, [(226, 51, [(0, .inr (.inr (some 113))), (1, .inl x1), (2, .inl x2), (3, .inl x3)], [])], 156, 0, la 0 [.inl x1, .inl (1 : Int32), .inl (((a_I M 115 (7 : Int32).toNatClampNeg) - (1 : Int32)) - (1 : Int32))], [], (s_I M 113 0 (0 : Int32)))) (nv_As hA) rfl ?_
      refine nv_calli (r_inB hz (nvU_B (nv_As hA))) (fun y2 Ny2 ⟨ey2, cy2⟩ => ?_)
      subst ey2
      rcases cy2 with ⟨ey2, cy2⟩ | ⟨ey2, cy2⟩
      · skip
        subst ey2
        rw [hl] at cy2
        have cy2 : (1 : Int) ≤ x1.toInt ∧ x1.toInt ≤ dnM M - 1 - 1 := cy2
        refine nv_cut hct nvU 156 0 8 (S' := (d + 2, [(226, 67, [(0, .inr (.inr (some 113))), (1, .inl x1), (2, .inl x2), (3, .inl x3)], [])], 156, 0, la 0 [.inl x3, .inl (1 : Int32), .inl (99 : Int32)], [], (s_I M 113 0 (0 : Int32)))) (nv_As hA) rfl ?_
        refine nv_calli (r_inB hz (nvU_B (nv_As hA))) (fun y3 Ny3 ⟨ey3, cy3⟩ => ?_)
        subst ey3
        rcases cy3 with ⟨ey3, cy3⟩ | ⟨ey3, cy3⟩
        · skip
          subst ey3
          refine nv_cut hct nvU 226 82 7 (S' := (d + 3, [], 226, 82, [(0, .inr (.inr (some 113))), (1, .inl x1), (2, .inl x2), (3, .inl x3)], [.inl (20 : Int32), .inl (a_I M 113 31)], (s_I M 113 0 (0 : Int32)))) (nv_As hA) rfl ?_
          have hbl : 0 ≤ (a_I M 113 31).toInt ∧ (a_I M 113 31).toInt ≤ 20 := LB_bl hL
          by_cases c4 : (a_I M 113 31).toInt = 20
          · skip
            refine nv_ifc hct false rfl (ccF5 rfl (show ((20 : Int32)).toInt = 20 from rfl) c4) ?_
            refine nv_cut hct nvU 226 90 14 (S' := (d + 3, [], 226, 90, [(0, .inr (.inr (some 113))), (1, .inl x1), (2, .inl x2), (3, .inl x3)], [.inl (-1 : Int32)], (s_I (s_I (s_I M 113 0 (0 : Int32)) 113 1 (3 : Int32)) 113 2 (-1 : Int32)))) (nv_As hA) rfl ?_
            exact nv_iret hct rfl rfl ⟨_, rfl, HQ_r h0 rfl rfl⟩
          · skip
            refine nv_ifc hct true rfl (ccT5 rfl (show ((20 : Int32)).toInt = 20 from rfl) c4) ?_
            refine nv_cut hct nvU 225 0 13 (S' := (d + 2, [(226, 107, [(0, .inr (.inr (some 113))), (1, .inl x1), (2, .inl x2), (3, .inl x3)], [])], 225, 0, la 0 [.inr (.inr (some 113)), .inr (.inr (some 117)), .inr (.inr (some 118)), .inl x1, .inl x2, .inl x3, .inl (0 : Int32)], [], (s_I M 113 0 (0 : Int32)))) (nv_As hA) rfl ?_
            have hd0 : dnM (s_I M 113 0 0) = dnM M := rfl
            refine nv_callv (oMstrikes hct (d := d + 2) h0.1 (by rw [hd0]; omega) (by rw [hd0]; omega) x1 x2 x3 0 (by rw [hd0]; omega) ⟨by decide, by decide⟩ (by omega)) (fun M2 ⟨q1, q2⟩ => ?_)
            have h2 : HP b rg msBl M M2 := HP_fr h0 q1 q2 rfl (by decide +kernel) (by decide)
            have hd2 : dnM M2 = dnM M := by unfold dnM; rw [Fr_I q2 (rg_at h0.1 (a := 115) (by omega) (fun b => by cases b <;> rfl)) rfl]; rfl
            have hb2 : a_I M2 113 31 = a_I M 113 31 := by rw [Fr_I q2 (rg_at h0.1 (a := 113) (by omega) (fun b => by cases b <;> rfl)) rfl]; rfl
            have hu2 : a_P M2 113 3 = some u := by rw [Fr_P q2 (rg_at h0.1 (a := 113) (by omega) (fun b => by cases b <;> rfl)) rfl]; exact hu
            have hA2 := LB_nvU h2.1 hu2 (JM_u h2.2.1 hu2)
            obtain ⟨n, hn⟩ : ∃ n : Nat, (a_I M2 113 31).toInt = (n : Int) := ⟨(a_I M2 113 31).toInt.toNat, by rw [hb2]; omega⟩
            have h20 : n < 20 := by rw [hb2] at hn; omega
            refine nv_cut hct nvU 226 116 8 (S' := (d + 3, [], 226, 116, [(0, .inr (.inr (some 113))), (1, .inl x1), (2, .inl x2), (3, .inl x3)], [.inl x1, .inl (a_I M2 113 31), .inr (.inr (some 127))], M2)) hA2 rfl ?_
            refine nv_ast hct hA2 rfl (show nvU.1 127 = 15 + 1 from rfl) (show nvU.2.1 127 = 20 + 1 from rfl) (inb_p hn h20) ?_
            refine nv_cut hct nvU 226 126 8 (S' := (d + 3, [], 226, 126, [(0, .inr (.inr (some 113))), (1, .inl x1), (2, .inl x2), (3, .inl x3)], [.inl x2, .inl (a_I M2 113 31), .inr (.inr (some 128))], (s_I M2 127 (a_I M2 113 31).toNatClampNeg x1))) (nv_As hA2) rfl ?_
            refine nv_ast hct (nv_As hA2) rfl (show nvU.1 128 = 15 + 1 from rfl) (show nvU.2.1 128 = 20 + 1 from rfl) (inb_p hn h20) ?_
            refine nv_cut hct nvU 226 136 8 (S' := (d + 3, [], 226, 136, [(0, .inr (.inr (some 113))), (1, .inl x1), (2, .inl x2), (3, .inl x3)], [.inl x3, .inl (a_I M2 113 31), .inr (.inr (some 129))], (s_I (s_I M2 127 (a_I M2 113 31).toNatClampNeg x1) 128 (a_I M2 113 31).toNatClampNeg x2))) (nv_As (nv_As hA2)) rfl ?_
            refine nv_ast hct (nv_As (nv_As hA2)) rfl (show nvU.1 129 = 15 + 1 from rfl) (show nvU.2.1 129 = 20 + 1 from rfl) (inb_p hn h20) ?_
            refine nv_cut hct nvU 226 155 21 (S' := (d + 3, [], 226, 155, [(0, .inr (.inr (some 113))), (1, .inl x1), (2, .inl x2), (3, .inl x3)], [.inl ((a_I M2 113 31) + (1 : Int32))], (s_I (s_I (s_I (s_I (s_I (s_I M2 127 (a_I M2 113 31).toNatClampNeg x1) 128 (a_I M2 113 31).toNatClampNeg x2) 129 (a_I M2 113 31).toNatClampNeg x3) 113 31 ((a_I M2 113 31) + (1 : Int32))) 113 1 (0 : Int32)) 113 2 (-1 : Int32)))) (nv_As (nv_As (nv_As hA2))) rfl ?_
            exact nv_iret hct rfl rfl ⟨_, rfl, by rw [tnc hn]; exact HQ_r (HP_blow h2 hn h20 (by rw [hd2]; omega)) rfl rfl⟩
        · skip
          subst ey3
          refine nv_cut hct nvU 226 75 15 (S' := (d + 3, [], 226, 75, [(0, .inr (.inr (some 113))), (1, .inl x1), (2, .inl x2), (3, .inl x3)], [.inl (-1 : Int32)], (s_I (s_I (s_I M 113 0 (0 : Int32)) 113 1 (2 : Int32)) 113 2 (-1 : Int32)))) (nv_As hA) rfl ?_
          exact nv_iret hct rfl rfl ⟨_, rfl, HQ_r h0 rfl rfl⟩
      · skip
        subst ey2
        refine nv_cut hct nvU 226 59 15 (S' := (d + 3, [], 226, 59, [(0, .inr (.inr (some 113))), (1, .inl x1), (2, .inl x2), (3, .inl x3)], [.inl (-1 : Int32)], (s_I (s_I (s_I M 113 0 (0 : Int32)) 113 1 (1 : Int32)) 113 2 (-1 : Int32)))) (nv_As hA) rfl ?_
        exact nv_iret hct rfl rfl ⟨_, rfl, HQ_r h0 rfl rfl⟩
  · skip
    subst ey1
    refine nv_cut hct nvU 226 26 15 (S' := (d + 3, [], 226, 26, [(0, .inr (.inr (some 113))), (1, .inl x1), (2, .inl x2), (3, .inl x3)], [.inl (-1 : Int32)], (s_I (s_I (s_I M 113 0 (0 : Int32)) 113 1 (1 : Int32)) 113 2 (-1 : Int32)))) (nv_As hA) rfl ?_
    exact nv_iret hct rfl rfl ⟨_, rfl, HQ_r h0 rfl rfl⟩
theorem r_heat0 {cd : Nat → Nat → Option aI} {z : Bool} (hz : ∀ m p i, cd0 z m p = some i → cd m p = some i) {b : Bool} {rg : Nat → Nat} {M : aM} (hL : LB b rg M) (hJ : JM rg M) {τ : Nat → Nat} (hA : nv_A nvO τ M) {d : Nat} : wpS cd (d + 1, [], 233, 0, nv_l τ (la 0 [.inr (.inr (some 113))]), [], M) (fun r M' => ∃ y, r = some (.inl y) ∧ HQ b rg msBl M M') := by
  show wpS cd (nv_S τ (d + 1, [], 233, 0, la 0 [.inr (.inr (some 113))], [], M)) _
  have hct := hc_of hz
  refine nv_cut hct nvO 233 17 20 (S' := (d + 1, [], 233, 17, [(0, .inr (.inr (some 113)))], [.inl (-1 : Int32)], (s_I (s_I (s_I M 113 0 (0 : Int32)) 113 1 (1 : Int32)) 113 2 (-1 : Int32)))) hA rfl ?_
  exact nv_iret hct rfl rfl ⟨_, rfl, HQ_r (HP_113 (HP_rf hL hJ) (by omega) rfl) rfl rfl⟩
theorem r_heatL {cd : Nat → Nat → Option aI} {z : Bool} (hz : ∀ m p i, cd0 z m p = some i → cd m p = some i) {b : Bool} {rg : Nat → Nat} {M : aM} {u n : Nat} {nn : Int32} (hnn : nn.toInt = (n : Int)) {d : Nat} : ∀ (f : Nat) {j : Nat} {i : Int32} {Mk : aM}, n - j = f → j ≤ n → i.toInt = (j : Int) → HP b rg msBl M Mk → (a_I Mk 113 31).toInt = (n : Int) → a_P Mk 113 3 = some u → wpS cd (nv_S (tauN u) (d + 3, [], 233, 25, [(2, .inl i), (1, .inl nn), (0, .inr (.inr (some 113)))], [], Mk)) (fun r M' => ∃ y, r = some (.inl y) ∧ HQ b rg msBl M M') := by
  have hct := hc_of hz
  intro f
  induction f with
  | zero =>
    intro j i Mk hf hj hi hk hbn hu
    have hA := LB_nvU hk.1 hu (JM_u hk.2.1 hu)
    refine nv_cut hct nvU 233 27 5 (S' := (d + 3, [], 233, 27, [(2, .inl i), (1, .inl nn), (0, .inr (.inr (some 113)))], [.inl nn, .inl i], Mk)) hA rfl ?_
    refine nv_ifc hct true rfl (ccT4 hi hnn (by omega)) ?_
    refine nv_cut hct nvU 233 77 17 (S' := (d + 3, [], 233, 77, [(2, .inl i), (1, .inl nn), (0, .inr (.inr (some 113)))], [.inl nn], (s_I (s_I (s_I Mk 113 31 (0 : Int32)) 113 1 (0 : Int32)) 113 2 (-1 : Int32)))) hA rfl ?_
    exact nv_iret hct rfl rfl ⟨_, rfl, HQ_r (HP_heat hk) rfl rfl⟩
  | succ f ih =>
    intro j i Mk hf hj hi hk hbn hu
    have hA := LB_nvU hk.1 hu (JM_u hk.2.1 hu)
    have hbl := LB_bl hk.1
    have hat := hk.2.1.2.2 j (by rw [hbn]; omega)
    have hj1 := hk.2.1.1
    refine nv_cut hct nvU 233 27 5 (S' := (d + 3, [], 233, 27, [(2, .inl i), (1, .inl nn), (0, .inr (.inr (some 113)))], [.inl nn, .inl i], Mk)) hA rfl ?_
    refine nv_ifc hct false rfl (ccF4 hi hnn (by omega)) ?_
    refine nv_cut hct nvU 233 44 11 (S' := (d + 3, [], 233, 44, [(2, .inl i), (1, .inl nn), (0, .inr (.inr (some 113)))], [.inl i, .inr (.inr (some 127)), .inr (.inr (some 118)), .inr (.inr (some 117)), .inr (.inr (some 113))], Mk)) hA rfl ?_
    refine nv_ald hct hA rfl (show nvU.1 127 = 15 + 1 from rfl) (show nvU.2.1 127 = 20 + 1 from rfl) (inb_p hi (by omega)) ?_
    refine nv_cut hct nvU 233 50 6 (S' := (d + 3, [], 233, 50, [(2, .inl i), (1, .inl nn), (0, .inr (.inr (some 113)))], [.inl i, .inr (.inr (some 128)), .inl (a_I Mk 127 i.toNatClampNeg), .inr (.inr (some 118)), .inr (.inr (some 117)), .inr (.inr (some 113))], Mk)) hA rfl ?_
    refine nv_ald hct hA rfl (show nvU.1 128 = 15 + 1 from rfl) (show nvU.2.1 128 = 20 + 1 from rfl) (inb_p hi (by omega)) ?_
    refine nv_cut hct nvU 233 56 6 (S' := (d + 3, [], 233, 56, [(2, .inl i), (1, .inl nn), (0, .inr (.inr (some 113)))], [.inl i, .inr (.inr (some 129)), .inl (a_I Mk 128 i.toNatClampNeg), .inl (a_I Mk 127 i.toNatClampNeg), .inr (.inr (some 118)), .inr (.inr (some 117)), .inr (.inr (some 113))], Mk)) hA rfl ?_
    refine nv_ald hct hA rfl (show nvU.1 129 = 15 + 1 from rfl) (show nvU.2.1 129 = 20 + 1 from rfl) (inb_p hi (by omega)) ?_
    refine nv_cut hct nvU 225 0 5 (S' := (d + 2, [(233, 61, [(2, .inl i), (1, .inl nn), (0, .inr (.inr (some 113)))], [])], 225, 0, la 0 [.inr (.inr (some 113)), .inr (.inr (some 117)), .inr (.inr (some 118)), .inl (a_I Mk 127 i.toNatClampNeg), .inl (a_I Mk 128 i.toNatClampNeg), .inl (a_I Mk 129 i.toNatClampNeg), .inl (1 : Int32)], [], Mk)) hA rfl ?_
    refine nv_callv (oMstrikes hct (d := d + 2) hk.1 (by omega) (by omega) _ _ _ 1 (by rw [tnc hi]; exact hat) ⟨by decide, by decide⟩ (by omega)) (fun M2 ⟨q1, q2⟩ => ?_)
    have h2 : HP b rg msBl M M2 := HP_fr hk q1 q2 rfl (by decide +kernel) (by decide)
    have hb2 : a_I M2 113 31 = a_I Mk 113 31 := by rw [Fr_I q2 (rg_at hk.1 (a := 113) (by omega) (fun b => by cases b <;> rfl)) rfl]
    have hu2 : a_P M2 113 3 = some u := by rw [Fr_P q2 (rg_at hk.1 (a := 113) (by omega) (fun b => by cases b <;> rfl)) rfl]; exact hu
    have hA2 := LB_nvU h2.1 hu2 (JM_u h2.2.1 hu2)
    refine nv_cut hct nvU 233 25 5 (S' := (d + 3, [], 233, 25, [(2, .inl (i + 1)), (1, .inl nn), (0, .inr (.inr (some 113)))], [], M2)) hA2 rfl ?_
    exact ih (j := j + 1) (by omega) (by omega) (add_p hi (by omega) (by omega)) h2 (by rw [hb2]; exact hbn) hu2
theorem r_heat1 {cd : Nat → Nat → Option aI} {z : Bool} (hz : ∀ m p i, cd0 z m p = some i → cd m p = some i) {b : Bool} {rg : Nat → Nat} {M : aM} (hL : LB b rg M) (hJ : JM rg M) {u : Nat} (hu : a_P M 113 3 = some u) {d : Nat} : wpS cd (d + 3, [], 233, 0, nv_l (tauN u) (la 0 [.inr (.inr (some 113))]), [], M) (fun r M' => ∃ y, r = some (.inl y) ∧ HQ b rg msBl M M') := by
  show wpS cd (nv_S (tauN u) (d + 3, [], 233, 0, la 0 [.inr (.inr (some 113))], [], M)) _
  have hct := hc_of hz
  have hA := LB_nvU hL hu (JM_u hJ hu)
  have h0 : HP b rg msBl M (s_I M 113 0 0) := HP_113 (HP_rf hL hJ) (by omega) rfl
  have hbl := LB_bl hL
  refine nv_cut hct nvU 233 25 14 (S' := (d + 3, [], 233, 25, [(2, .inl (0 : Int32)), (1, .inl (a_I M 113 31)), (0, .inr (.inr (some 113)))], [], (s_I M 113 0 (0 : Int32)))) hA rfl ?_
  exact r_heatL hz (n := (a_I M 113 31).toInt.toNat) (by omega) _ (j := 0) rfl (by omega) rfl h0 (by show (a_I M 113 31).toInt = _; omega) hu

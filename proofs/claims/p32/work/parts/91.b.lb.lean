/-! The loop's invariant behind a whole shop of the reference -/
theorem lk_ok {L : lsT} (h : lacks L = false) : l_in L ≠ 0 ∧ l_lp L = true ∧ l_co L = true ∧ l_fr L ≠ 0 := by
  unfold lacks at h
  obtain ⟨h1, h⟩ := Bool.or_eq_false_iff.mp h
  obtain ⟨h2, h⟩ := Bool.or_eq_false_iff.mp h
  obtain ⟨h3, h⟩ := Bool.or_eq_false_iff.mp h
  obtain ⟨h4, h⟩ := Bool.or_eq_false_iff.mp h
  exact ⟨of_decide_eq_false h1, by simpa using h2, by simpa using h3, of_decide_eq_false h4⟩
/-- what a shop that was read whole holds -/
def SsA (n0 : Nat) (M : aM) : Prop := (2 ≤ (a_I M n0 0).toInt ∧ (a_I M n0 0).toInt ≤ 30) ∧ (10 ≤ (a_I M n0 1).toInt ∧ (a_I M n0 1).toInt ≤ 999) ∧ (0 ≤ (a_I M n0 2).toInt ∧ (a_I M n0 2).toInt ≤ 9) ∧ (1 ≤ (a_I M n0 3).toInt ∧ (a_I M n0 3).toInt ≤ 99) ∧ (0 ≤ (a_I M n0 11).toInt ∧ (a_I M n0 11).toInt ≤ 10) ∧ (1 ≤ (a_I M n0 12).toInt ∧ (a_I M n0 12).toInt ≤ 8) ∧ (0 ≤ (a_I M n0 13).toInt ∧ (a_I M n0 13).toInt ≤ 4)
theorem Ls_Ss {n0 : Nat} {M : aM} {L : lsT} (hA : LsA n0 M L) (hl : lacks L = false) : SsA n0 M := by
  obtain ⟨k1, k2, k3, k4⟩ := lk_ok hl
  obtain ⟨⟨a1, a2, a3, a4⟩, b1, _, _, c1, d1, e1, _⟩ := hA
  rcases a4 with a4 | ⟨a4, a5, a6⟩
  · exact absurd a4 k1
  · rcases b1 with ⟨b1, _⟩ | ⟨_, b2, b3⟩
    · rw [b1] at k2; cases k2
    · refine ⟨by rw [a1]; exact a4, by rw [a2]; exact a5, by rw [a3]; exact a6, ⟨b2, b3⟩, by omega, by omega, by omega⟩
def s12 (M : aM) (n0 : Nat) (k : Nat) : Prop := tyOk (fun a => frR (a - n0)) (n0 + 15) (ysl RR 12 k) (a_I M n0 k) (a_P M n0 k)
theorem s12_r : ∀ i : Fin 14, ysl RR 12 (15 + i.1) = .inr (.inr (635 + i.1, false)) := by decide +kernel
theorem s12_f : ∀ k : Fin 15, freeT (ysl RR 12 k.1) = true ∨ [0, 1, 2, 3, 11, 12, 13].any (Nat.beq k.1) = true := by decide +kernel
theorem s12_i : ∀ k : Fin 15, ∃ q, ysl RR 12 k.1 = .inl q := fun k => by
  have : ∀ k : Fin 15, (match ysl RR 12 k.1 with | .inl _ => true | .inr _ => false) = true := by decide +kernel
  have := this k
  cases h : ysl RR 12 k.1 with
  | inl q => exact ⟨q, rfl⟩
  | inr q => rw [h] at this; cases this
theorem free_any {rg : Nat → Nat} {n : Nat} {q : Int × Int} {y : Int32} {p : Option Nat} (hf : freeT (.inl q) = true) : tyOk rg n (.inl q) y p := by
  obtain ⟨h1, h2⟩ := (Bool.and_eq_true _ _).mp hf
  have h1 := of_decide_eq_true h1
  have h2 := of_decide_eq_true h2
  have e1 := Int32.le_toInt y
  have e2 := Int32.toInt_lt y
  show q.1 ≤ y.toInt ∧ y.toInt ≤ q.2
  omega
theorem shop_ty {rg : Nat → Nat} {n0 : Nat} {M M' : aM} (hn1 : 137 ≤ n0) (hN : NwF n0 M M') (hS : SsA n0 M') {k : Nat} (hk : k < 29) : tyOk (rgT n0 rg) (n0 + 15) (ysl RR 12 k) (a_I M' n0 k) (a_P M' n0 k) := by
  by_cases e : k < 15
  · obtain ⟨q, hq⟩ := s12_i ⟨k, e⟩
    simp only at hq
    obtain ⟨z0, z1, z2, z3, z4, z5, z6⟩ := hS
    rcases s12_f ⟨k, e⟩ with f | f
    · simp only at f; rw [hq] at f ⊢; exact free_any f
    · simp only [List.any_cons, List.any_nil, Bool.or_eq_true] at f
      rcases f with f | f | f | f | f | f | f | f
      · rw [nbT f]; exact z0
      · rw [nbT f]; exact z1
      · rw [nbT f]; exact z2
      · rw [nbT f]; exact z3
      · rw [nbT f]; exact z4
      · rw [nbT f]; exact z5
      · rw [nbT f]; exact z6
      · cases f
  · obtain ⟨i, rfl⟩ : ∃ i, k = 15 + i := ⟨k - 15, by omega⟩
    have h := (hN.2.2 i (by omega)).2.2
    rw [h, show ysl RR 12 (15 + i) = .inr (.inr (635 + i, false)) from s12_r ⟨i, by omega⟩]
    refine ⟨by omega, ?_⟩
    rw [rgT_hi (by omega) (by omega), show n0 + 1 + i - n0 = i + 1 by omega]
    show (bif Nat.beq (i + 1) 0 then 12 else 634 + (i + 1)) = 635 + i
    rw [nbF (show i + 1 ≠ 0 by omega)]
    show 634 + (i + 1) = 635 + i
    omega
theorem arr_f : ∀ i : Fin 15, i.1 = 0 ∨ i.1 = 9 ∨ i.1 = 10 ∨ (Nat.ble 14 (RR.1 (frR i.1)) = true ∧ ((RR.2.2.2 (frR i.1) 0 = .inr (.inl ())) ∨ RR.2.2.2 (frR i.1) 0 = .inl (-2147483648, 2147483647))) := by decide +kernel
theorem ysl_arr {r k : Nat} (h : Nat.ble 14 (RR.1 r) = true) : ysl RR r k = RR.2.2.2 r 0 := by unfold ysl ysi; rw [h]; rfl
theorem fr_ty {rg : Nat → Nat} {n0 : Nat} {M M' : aM} {L : lsT} (hn1 : 137 ≤ n0) (hN : NwF n0 M M') (hS : SsA n0 M') (hF : LsF n0 M' L) {i : Nat} (hi : i < 15) {k : Nat} (hk : k < RR.2.2.1 (frR i)) : tyOk (rgT n0 rg) (n0 + 15) (ysl RR (frR i) k) (a_I M' (n0 + i) k) (a_P M' (n0 + i) k) := by
  rcases arr_f ⟨i, hi⟩ with e | e | e | ⟨e1, e2⟩
  · simp only at e; subst e; exact shop_ty hn1 hN hS hk
  · simp only at e; subst e
    have hk : k < 8 := hk
    have := (hF.2 k hk).1
    exact this
  · simp only at e; subst e
    have hk : k < 8 := hk
    have := (hF.2 k hk).2.2
    exact this
  · simp only at e1 e2
    rw [ysl_arr e1]
    rcases e2 with e2 | e2
    · rw [e2]; exact True.intro
    · rw [e2]; exact free_any rfl
theorem LB_shT {b : Bool} {rg : Nat → Nat} {M M' : aM} {n0 : Nat} {L : lsT} (hL : LB b rg M) (hn : a_n M = n0) (hb : n0 + 60 < aSB) (hN : NwF n0 M M') (h6 : a_I M' 113 6 = 0) (hF : FrG gSt n0 M M') (h3 : a_P M' 113 3 = some n0) (hA : LsA n0 M' L) (hG : LsF n0 M' L) (hl : lacks L = false) (hz : a_I M' 113 16 = 0 ∧ a_I M' 113 26 = 0 ∧ a_I M' 113 28 = 0 ∧ a_I M' 113 31 = 0 ∧ a_I M' 113 35 = 0 ∧ a_I M' 113 37 = 0) (h115 : ∀ k, k < 10 → a_I M' 115 k = 0) (h135 : ∀ k, k < 30 → a_I M' 135 k = 0) : LB b (rgT n0 rg) M' := by
  have hL0 := hL
  have hS := Ls_Ss hA hl
  obtain ⟨g1, g2, g3, g4, g5, g6, g7, g8⟩ := hL
  have hn1 : 137 ≤ n0 := by omega
  obtain ⟨n1, _, _⟩ := hN.1
  have hr : ∀ o r, o < n0 → rg o = r → shR r = false → rgT n0 rg o = r := fun o r ho e hs => by
    by_cases e1 : o < 137
    · exact (rgT_lo e1).trans e
    · have := g3 o (by omega) (by omega)
      rw [e, hs] at this
      cases this
  have h39 : tyOk (rgT n0 rg) (n0 + 15) (.inr (.inr (12, true))) 0 (a_P M' 113 3) := by
    rw [h3]
    exact ⟨by omega, by rw [rgT_hi (by omega) (by omega), Nat.sub_self]; rfl⟩
  have hv : ∀ a k, a < 137 → k < RR.2.2.1 (rg a) → gSt a k = true → freeT (ysl RR (rg a) k) = true ∨ a_I M' a k = a_I M a k ∨ a_I M' a k = 0 := fun a k ha hk hg => by
    rcases (Bool.or_eq_true _ _).mp hg with hg | hg
    · obtain ⟨w1, w2⟩ := (Bool.and_eq_true _ _).mp hg
      have w1 : a = 113 := nbT w1
      subst w1
      by_cases e6 : k = 6
      · subst e6; exact Or.inr (Or.inr h6)
      · refine Or.inl ?_
        rw [g2 113 (by omega)]
        have : ∀ b : Bool, ∀ k : Fin 15, (Nat.ble k.1 2 || (Nat.ble 6 k.1 && Nat.ble k.1 14)) = false ∨ k.1 = 6 ∨ freeT (ysl RR (rgP b 113) k.1) = true := by decide +kernel
        have hk15 : k < 15 := by
          rcases (Bool.or_eq_true _ _).mp w2 with w | w
          · have := Nat.le_of_ble_eq_true w; omega
          · have := Nat.le_of_ble_eq_true ((Bool.and_eq_true _ _).mp w).2; omega
        rcases this b ⟨k, hk15⟩ with q | q | q
        · simp only at q; rw [w2] at q; cases q
        · exact absurd q e6
        · exact q
    · rcases (Bool.or_eq_true _ _).mp hg with hg | hg
      · obtain ⟨w1, w2⟩ := (Bool.and_eq_true _ _).mp hg
        have w1 : a = 113 := nbT w1
        subst w1
        refine Or.inr (Or.inr ?_)
        obtain ⟨z1, z2, z3, z4, z5, z6⟩ := hz
        simp only [List.any_cons, List.any_nil, Bool.or_eq_true] at w2
        rcases w2 with f | f | f | f | f | f | f
        · rw [nbT f]; exact z1
        · rw [nbT f]; exact z2
        · rw [nbT f]; exact z3
        · rw [nbT f]; exact z4
        · rw [nbT f]; exact z5
        · rw [nbT f]; exact z6
        · cases f
      · rw [g2 a ha] at hk ⊢
        simp only [List.any_cons, List.any_nil, Bool.or_eq_true] at hg
        rcases hg with f | f | f | f | f
        · have f : a = 115 := nbT f
          subst f
          exact Or.inr (Or.inr (h115 k (Nat.lt_of_lt_of_le hk (by cases b <;> decide))))
        · have f : a = 131 := nbT f
          subst f
          exact Or.inl (by rw [ysl_arr (by cases b <;> rfl)]; cases b <;> rfl)
        · have f : a = 132 := nbT f
          subst f
          exact Or.inl (by rw [ysl_arr (by cases b <;> rfl)]; cases b <;> rfl)
        · have f : a = 135 := nbT f
          subst f
          exact Or.inr (Or.inr (h135 k (Nat.lt_of_lt_of_le hk (by cases b <;> decide))))
        · cases f
  refine ⟨⟨by omega, fun a ha => ?_⟩, fun a ha => (rgT_lo ha).trans (g2 a ha), fun a ha hb9 => ?_, ?_, by omega, fun q hq => ?_, ?_, ?_⟩
  · rw [n1] at ha ⊢
    by_cases e1 : a < 137
    · rw [rgT_lo e1]
      obtain ⟨k1, k2, _⟩ := g1.2 a (by omega)
      obtain ⟨f1, f2⟩ := hF.1 a (by omega)
      exact ⟨f1.trans k1, f2.trans k2, fun k hk => lo_ok hL0 hn (by omega) hF hv hr h39 e1 hk⟩
    · by_cases e : a < n0
      · rw [rgT_md e1 e]
        obtain ⟨k1, k2, _⟩ := g1.2 a (by omega)
        obtain ⟨f1, f2⟩ := hF.1 a e
        have hs := g3 a (by omega) (by omega)
        obtain ⟨o1, o2⟩ : RR.1 (oldR (rg a)) = RR.1 (rg a) ∧ RR.2.1 (oldR (rg a)) = RR.2.1 (rg a) := by
          rcases old_ok ⟨rg a, shR_906 hs⟩ with w | w
          · simp only at w; rw [hs] at w; cases w
          · exact w
        refine ⟨by rw [f1, k1, o1], by rw [f2, k2, o2], fun k hk => ?_⟩
        rw [(old_W _).1] at hk
        omega
      · rw [rgT_hi e1 e]
        obtain ⟨i, rfl⟩ : ∃ i, a = n0 + i := ⟨a - n0, by omega⟩
        rw [show n0 + i - n0 = i by omega]
        obtain ⟨q1, q2⟩ := kd_fr hN (i := i) (by omega)
        exact ⟨q1, q2, fun k hk => fr_ty hn1 hN hS hG (by omega) hk⟩
  · rw [n1] at hb9
    by_cases e : a < n0
    · rw [rgT_md (by omega) e]; exact (old_W _).2.1
    · rw [rgT_hi (by omega) e]
      exact (frR_ok ⟨a - n0, by omega⟩).1
  · intro r hr9 o o' ho ho' e1 e2
    rw [n1] at ho ho'
    have key : ∀ x, x < n0 + 15 → rgT n0 rg x = r → x = (if r = 12 then n0 else n0 + 9) := fun x hx ex => by
      by_cases e1 : x < 137
      · exfalso
        rw [rgT_lo e1, g2 x e1] at ex
        exact ch_S b ⟨x, e1⟩ r hr9 ex
      · by_cases e : x < n0
        · exfalso
          rw [rgT_md e1 e] at ex
          rcases List.mem_cons.mp hr9 with w | w
          · exact (old_W _).2.2.1 (ex.trans w)
          · exact (old_W _).2.2.2 (ex.trans (List.mem_singleton.mp w))
        · rw [rgT_hi e1 e] at ex
          obtain ⟨_, _, c1, c2⟩ := frR_ok ⟨x - n0, by omega⟩
          simp only at c1 c2
          rcases List.mem_cons.mp hr9 with w | w
          · rw [if_pos w]
            rcases c1 with c1 | c1
            · omega
            · exact absurd (ex.trans w) c1
          · have w := List.mem_singleton.mp w
            rw [if_neg (by omega)]
            rcases c2 with c2 | c2
            · omega
            · exact absurd (ex.trans w) c2
    rw [key o ho e1, key o' ho' e2]
  · rw [hF.2.2.2 q.1 q.2.1 (by have := PT_lt q hq; omega) (st_P q hq)]; exact g6 q hq
  · rw [hF.2.2.2 0 7 (by omega) (by decide)]; exact g7
  · rw [hF.2.2.2 1 1 (by omega) (by decide)]; exact g8
theorem JM_shT {b : Bool} {rg : Nat → Nat} {M M' : aM} {n0 : Nat} {L : lsT} (hL : LB b rg M) (hn : a_n M = n0) (hN : NwF n0 M M') (h3 : a_P M' 113 3 = some n0) (hA : LsA n0 M' L) (hG : LsF n0 M' L) (hl : lacks L = false) (h31 : a_I M' 113 31 = 0) (h115 : ∀ k, k < 10 → a_I M' 115 k = 0) : JM (rgT n0 rg) M' := by
  have hS := Ls_Ss hA hl
  have h5 := hL.2.2.2.2.1
  have hd : dnM M' = 0 := by unfold dnM; rw [h115 7 (by omega)]; rfl
  obtain ⟨z0, _, _, _, _, z5, _⟩ := hS
  have hfr := hA.2.2.2.2.2.2.1.1
  refine ⟨by rw [hd]; omega, Or.inr ⟨n0, h3, by rw [hN.1.1]; omega, ?_, by rw [hd]; omega, (l_fr L : Int), by omega, by omega, hfr, fun w hw hr k hk => ?_⟩, fun k hk => ?_⟩
  · rw [rgT_hi (by omega) (by omega), Nat.sub_self]; rfl
  · have e9 : w = n0 + 9 := by
      rw [hN.1.1] at hw
      by_cases e1 : w < 137
      · exfalso
        rw [rgT_lo e1, hL.2.1 w e1] at hr
        exact ch_S b ⟨w, e1⟩ 643 (by decide) hr
      · by_cases e : w < n0
        · exfalso
          rw [rgT_md e1 e] at hr
          exact (old_W _).2.2.2 hr
        · rw [rgT_hi e1 e] at hr
          rcases (frR_ok ⟨w - n0, by omega⟩).2.2.2 with c | c
          · simp only at c; omega
          · exact absurd hr c
    rw [e9]
    have hk : k < l_fr L := by omega
    have h8 : l_fr L ≤ 8 := hA.2.2.2.2.2.2.1.2
    obtain ⟨q1, q2, _⟩ := hG.2 k (by omega)
    exact ⟨q2 hk, q1.2⟩
  · rw [h31] at hk
    have : (k : Int) < 0 := hk
    omega
/-- the reference's shop over the invariant -/
def ShM (rg : Nat → Nat) (b : Bool) (n : Int32) (M M' : aM) (y : Int32) : Prop := (∃ rg', LB b rg' M' ∧ JM rg' M') ∧ (a_n M' ≤ a_n M + 15 ∧ a_c M' ≤ a_c M + 15 ∧ a_z M' ≤ a_z M + 169) ∧ (((n.toInt < 0 ∨ (a_I M 113 6).toInt < n.toInt) ∧ y = -1 ∧ M' = s_I (s_I (s_I M 113 0 0) 113 1 2) 113 2 (-1)) ∨ ((0 ≤ n.toInt ∧ n.toInt ≤ (a_I M 113 6).toInt) ∧ ShP (shB M) n.toInt.toNat (a_n M) M M' y))
theorem LB_136 {b : Bool} {rg : Nat → Nat} {M : aM} (hL : LB b rg M) : 0 ≤ (a_I M 113 6).toInt ∧ (a_I M 113 6).toInt ≤ 700 := by
  have := (hL.1.2 113 (by have := hL.2.2.2.2.1; omega)).2.2 6 (by rw [hL.2.1 113 (by omega)]; cases b <;> decide)
  rw [hL.2.1 113 (by omega), show ysl RR (rgP b 113) 6 = .inl (0, 700) by cases b <;> rfl] at this
  exact this
theorem JM_s {rg : Nat → Nat} {M : aM} (hJ : JM rg M) {k : Nat} {v : Int32} (hk : k ≠ 31) (hr : rg 113 ≠ 12 ∧ rg 113 ≠ 643) : JM rg (s_I M 113 k v) := by
  obtain ⟨j1, j2, j3⟩ := hJ
  have hI : ∀ a j, ¬ (a = 113 ∧ j = k) → a_I (s_I M 113 k v) a j = a_I M a j := fun a j e => by rw [aI_sI, if_neg e]
  have hd : dnM (s_I M 113 k v) = dnM M := by unfold dnM; rw [hI 115 7 (by omega)]
  refine ⟨by rw [hd]; exact j1, ?_, fun i hi => ?_⟩
  · rcases j2 with e | ⟨u, e, u1, u2, u3, fr, u4, u5, u6, u7⟩
    · exact Or.inl e
    · refine Or.inr ⟨u, e, u1, u2, ?_, fr, u4, u5, ?_, fun w hw hr9 i hi => ?_⟩
      · rw [hd, hI u 0 (fun q => hr.1 (by rw [← q.1]; exact u2))]; exact u3
      · rw [hI u 12 (fun q => hr.1 (by rw [← q.1]; exact u2))]; exact u6
      · rw [hI w i (fun q => hr.2 (by rw [← q.1]; exact hr9))]; exact u7 w hw hr9 i hi
  · rw [hI 113 31 (by omega)] at hi
    rw [hd, hI 127 i (by omega)]
    exact j3 i hi
theorem oM_shop {cd : Nat → Nat → Option aI} {z : Bool} (hz : ∀ m p i, cd0 z m p = some i → cd m p = some i) {b : Bool} {rg : Nat → Nat} {M : aM} (hL : LB b rg M) (hJ : JM rg M) (hb : a_n M + 60 < aSB) {n : Int32} {d : Nat} : wpS cd (d + 13, [], 181, 0, la 0 [.inr (.inr (some 113)), .inl n], [], M) (fun r M' => ∃ y, r = some (.inl y) ∧ ShM rg b n M M' y) := by
  have h21 := LB_136 hL
  have h5 := hL.2.2.2.2.1
  obtain ⟨k, hk⟩ : ∃ k : Nat, (a_I M 113 6).toInt = (k : Int) := ⟨(a_I M 113 6).toInt.toNat, by omega⟩
  have h9 := r_shop (n := n) (d := d) hz (LB_nv (τ := tauN (a_n M)) hL) rfl h5 hb hk (by omega)
  refine wpS_mono h9 (fun r M' h => ?_)
  obtain ⟨y, hr, h⟩ := h
  refine ⟨y, hr, ?_⟩
  have hne : ∀ b : Bool, rgP b 113 ≠ 12 ∧ rgP b 113 ≠ 643 := by decide
  have hr3 : rg 113 ≠ 12 ∧ rg 113 ≠ 643 := by rw [hL.2.1 113 (by omega)]; exact hne b
  rcases h with ⟨c1, c2, c3⟩ | ⟨c1, c2⟩
  · subst c3
    refine ⟨⟨rg, LB_s (LB_s (LB_s hL (by decide) (fun b => Or.inl (by cases b <;> rfl))) (by decide) (fun b => Or.inl (by cases b <;> rfl))) (by decide) (fun b => Or.inl (by cases b <;> rfl)), JM_s (JM_s (JM_s hJ (by decide) hr3) (by decide) hr3) (by decide) hr3⟩, ⟨Nat.le_add_right _ 15, Nat.le_add_right _ 15, Nat.le_add_right _ 169⟩, Or.inl ⟨by rw [hk]; exact c1, c2, rfl⟩⟩
  · refine ⟨?_, ?_, Or.inr ⟨by rw [hk]; exact c1, c2⟩⟩
    · obtain ⟨hN, h6, h4, h⟩ := c2
      rcases h with ⟨e, q, f1, f2, f3, f4, f5⟩ | ⟨p, f1, f2, f3, f4, f5, ⟨f6, f7, f8⟩, f9, g1, g2⟩
      · exact ⟨_, LB_shF hL rfl hb hN h6 f3 f4, JM_shF hL hJ rfl hN f3 f4⟩
      · exact ⟨_, LB_shT hL rfl hb hN h6 f2 f3 f6 f7 f8 f9 g1 g2, JM_shT hL rfl hN f3 f6 f7 f8 f9.2.2.2.1 g1⟩
    · obtain ⟨n1, n2, n3⟩ := c2.1.1
      exact ⟨by omega, by omega, n3⟩

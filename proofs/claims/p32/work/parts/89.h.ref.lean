/-! The reference's lines: printed by wip/gen/refp3.py -/
def tauN (n0 j : Nat) : Nat := n0 + (j - 137)
def nmL : List Nat := [26, 30, 34, 37, 38, 39, 40, 36, 41]
def m_wk (B : Nat → Int) (lim : Nat) (m : pmd) : Bool := match m with
  | .inl p => Nat.beq (knd B lim p) 1
  | .inr _ => false
def m_name (B : Nat → Int) (lim : Nat) (m : pmd) : Bool := m_wk B lim m && nmL.all (fun k => !m_is B lim (txc k) m)
def m_eat (B : Nat → Int) (lim : Nat) (w : List Nat) (m : pmd) : pmd := bif m_is B lim w m then m_adv B lim m else m
def m_hs (B : Nat → Int) (lim : Nat) (m : pmd) : Int := match m with
  | .inl p => hsh (gt9 B lim) (skp B lim p) (nxt B lim p - skp B lim p)
  | .inr _ => 0
def fnx (P : Nat → Bool) : Nat → Nat → Int
  | 0, _ => -1
  | f + 1, j => bif P j then (j : Int) else fnx P f (j + 1)
theorem fnx_bd {P : Nat → Bool} : ∀ {f j : Nat}, fnx P f j = -1 ∨ ∃ k : Nat, fnx P f j = (k : Int) ∧ j ≤ k ∧ k < j + f ∧ P k = true
  | 0, _ => Or.inl rfl
  | f + 1, j => by
    unfold fnx
    cases hp : P j with
    | true => exact Or.inr ⟨j, rfl, Nat.le_refl _, by omega, hp⟩
    | false =>
      rcases fnx_bd (P := P) (f := f) (j := j + 1) with h | ⟨k, h1, h2, h3, h4⟩
      · exact Or.inl h
      · exact Or.inr ⟨k, h1, by omega, by omega, h4⟩
theorem fnx_cong {P Q : Nat → Bool} : ∀ {f j : Nat}, (∀ k, j ≤ k → k < j + f → P k = Q k) → fnx P f j = fnx Q f j
  | 0, _, _ => rfl
  | f + 1, j, h => by
    unfold fnx
    rw [h j (Nat.le_refl _) (by omega), fnx_cong (f := f) (j := j + 1) (fun k h1 h2 => h k (by omega) (by omega))]
/-- what the lines told so far: rod; lip, costs; ways, hards, seers; froms, the first, the last; names -/
abbrev lsT : Type := (Int × Int × Int) × (Bool × Bool) × (Nat × Nat × Nat) × (Nat × Int × Int) × List (Int × Int)
def l_in (L : lsT) : Int := L.1.1
def l_lp (L : lsT) : Bool := L.2.1.1
def l_co (L : lsT) : Bool := L.2.1.2
def l_wy (L : lsT) : Nat := L.2.2.1.1
def l_hd (L : lsT) : Nat := L.2.2.1.2.1
def l_se (L : lsT) : Nat := L.2.2.1.2.2
def l_fr (L : lsT) : Nat := L.2.2.2.1.1
def l_f0 (L : lsT) : Int := L.2.2.2.1.2.1
def l_fl (L : lsT) : Int := L.2.2.2.1.2.2
def l_nm (L : lsT) : List (Int × Int) := L.2.2.2.2
def l_fd (L : lsT) (w : Int) : Int := fnx (fun j => decide (((l_nm L).getD j (0, 0)).1 = w)) (l_nm L).length 0
/-- the fresh shop's numbers -/
def LsA (n0 : Nat) (M : aM) (L : lsT) : Prop := ((a_I M n0 0).toInt = l_in L ∧ (a_I M n0 1).toInt = L.1.2.1 ∧ (a_I M n0 2).toInt = L.1.2.2 ∧ (l_in L = 0 ∨ ((2 ≤ l_in L ∧ l_in L ≤ 30) ∧ (10 ≤ L.1.2.1 ∧ L.1.2.1 ≤ 999) ∧ (0 ≤ L.1.2.2 ∧ L.1.2.2 ≤ 9)))) ∧ ((l_lp L = false ∧ (a_I M n0 3).toInt = 0) ∨ (l_lp L = true ∧ 1 ≤ (a_I M n0 3).toInt ∧ (a_I M n0 3).toInt ≤ 99)) ∧ ((l_co L = false ∧ (a_I M n0 7).toInt = -1) ∨ (l_co L = true ∧ 0 ≤ (a_I M n0 7).toInt)) ∧ ((a_I M n0 10).toInt = (l_wy L : Int) ∧ l_wy L ≤ 4) ∧ ((a_I M n0 11).toInt = (l_hd L : Int) ∧ l_hd L ≤ 10) ∧ ((a_I M n0 13).toInt = (l_se L : Int) ∧ l_se L ≤ 4) ∧ ((a_I M n0 12).toInt = (l_fr L : Int) ∧ l_fr L ≤ 8) ∧ ((a_I M n0 14).toInt = ((l_nm L).length : Int) ∧ (l_nm L).length ≤ 8)
/-- its names -/
def LsN (n0 : Nat) (M : aM) (L : lsT) : Prop := ∀ i, i < (l_nm L).length → (a_J M (n0 + 13) i).toInt = ((l_nm L).getD i (0, 0)).1 ∧ (a_I M (n0 + 14) i).toInt = ((l_nm L).getD i (0, 0)).2 ∧ -1 ≤ ((l_nm L).getD i (0, 0)).2 ∧ ((l_nm L).getD i (0, 0)).2 ≤ 3
/-- its froms -/
def LsF (n0 : Nat) (M : aM) (L : lsT) : Prop := ((l_fr L = 0 ∧ l_fl L = -1) ∨ (1 ≤ l_fr L ∧ (a_I M (n0 + 8) 0).toInt = l_f0 L ∧ (a_I M (n0 + 8) (l_fr L - 1)).toInt = l_fl L ∧ 0 ≤ l_fl L ∧ l_fl L ≤ 29)) ∧ ∀ k, k < 8 → (0 ≤ (a_I M (n0 + 9) k).toInt ∧ (a_I M (n0 + 9) k).toInt ≤ 9) ∧ (k < l_fr L → 1 ≤ (a_I M (n0 + 9) k).toInt) ∧ 0 ≤ (a_I M (n0 + 10) k).toInt ∧ (a_I M (n0 + 10) k).toInt ≤ 3
/-- all but the reader's fields and what is fresh as before -/
def FrF (n0 : Nat) (M M' : aM) : Prop := (a_n M' = a_n M ∧ a_z M' = a_z M ∧ a_c M' = a_c M) ∧ (a_K M' = a_K M ∧ a_N M' = a_N M ∧ a_P M' = a_P M) ∧ (∀ a k, a < n0 → (a = 113 → k ∉ [8, 9, 10, 11, 12, 13, 14]) → a_I M' a k = a_I M a k) ∧ ∀ a k, a < n0 → ¬ (a = 113 ∧ k = 15) → a_J M' a k = a_J M a k
theorem Ff_rf {n0 : Nat} {M : aM} : FrF n0 M M := ⟨⟨rfl, rfl, rfl⟩, ⟨rfl, rfl, rfl⟩, fun _ _ _ _ => rfl, fun _ _ _ _ => rfl⟩
theorem Ff_tr {n0 : Nat} {M M1 M2 : aM} (h : FrF n0 M M1) (g : FrF n0 M1 M2) : FrF n0 M M2 := ⟨⟨g.1.1.trans h.1.1, g.1.2.1.trans h.1.2.1, g.1.2.2.trans h.1.2.2⟩, ⟨g.2.1.1.trans h.2.1.1, g.2.1.2.1.trans h.2.1.2.1, g.2.1.2.2.trans h.2.1.2.2⟩, fun a k q w => (g.2.2.1 a k q w).trans (h.2.2.1 a k q w), fun a k q w => (g.2.2.2 a k q w).trans (h.2.2.2 a k q w)⟩
theorem Ff_x {n0 : Nat} {M M1 : aM} (h : FrX [8, 9, 10, 11, 12, 13, 14] M M1) : FrF n0 M M1 := ⟨h.1, h.2.1, fun a k _ w => h.2.2.1 a k w, fun a k _ w => h.2.2.2 a k w⟩
theorem Ff_s {n0 : Nat} {M M1 : aM} {a k : Nat} {v : Int32} (ha : n0 ≤ a) (h : FrF n0 M M1) : FrF n0 M (s_I M1 a k v) := ⟨h.1, h.2.1, fun b j q w => by
  rw [aI_sI, if_neg (fun e => by omega)]
  exact h.2.2.1 b j q w, h.2.2.2⟩
theorem Ff_j {n0 : Nat} {M M1 : aM} {a k : Nat} {v : Int64} (ha : n0 ≤ a) (h : FrF n0 M M1) : FrF n0 M (s_J M1 a k v) := ⟨h.1, h.2.1, h.2.2.1, fun b j q w => by
  rw [aJ_sJ, if_neg (fun e => by omega)]
  exact h.2.2.2 b j q w⟩
theorem St_w {B : Nat → Int} {lim : Nat} {M : aM} {m : pmd} {a k : Nat} {v : Int32} (ha : 137 ≤ a) (h : StR B lim M m) : StR B lim (s_I M a k v) m := by
  have e : ∀ j, a_I (s_I M a k v) 113 j = a_I M 113 j := fun j => by rw [aI_sI, if_neg (fun q => by omega)]
  rcases m with p | f
  · obtain ⟨h1, ⟨h2, h3⟩, h4⟩ := h
    refine ⟨h1, ⟨by rw [e]; exact h2, ?_⟩, by rw [e]; exact h4⟩
    rw [e, e, e, e]
    exact h3
  · obtain ⟨h1, h2, h3, h4⟩ := h
    exact ⟨by rw [e]; exact h1, by rw [e]; exact h2, by rw [e]; exact h3, h4⟩
theorem St_j {B : Nat → Int} {lim : Nat} {M : aM} {m : pmd} {a k : Nat} {v : Int64} (ha : 137 ≤ a) (h : StR B lim M m) : StR B lim (s_J M a k v) m := by
  have e : ∀ j, a_J (s_J M a k v) 113 j = a_J M 113 j := fun j => by rw [aJ_sJ, if_neg (fun q => by omega)]
  rcases m with p | f
  · obtain ⟨h1, ⟨h2, h3⟩, h4⟩ := h
    refine ⟨h1, ⟨h2, ?_⟩, h4⟩
    rw [e]
    exact h3
  · exact h
theorem En_w {n0 : Nat} {B : Nat → Int} {lim : Nat} {M : aM} {a k : Nat} {v : Int32} (ha : 137 ≤ a) (h : EnR (tauN n0) B lim M) : EnR (tauN n0) B lim (s_I M a k v) := by
  obtain ⟨h1, h2, h3, h4, h5⟩ := h
  refine ⟨h1, fun j hj => ?_, ?_, h4, h5⟩
  · rw [aI_sI, if_neg (fun e => by omega)]; exact h2 j hj
  · rw [aI_sI, if_neg (fun e => by omega)]; exact h3
theorem En_n {n0 : Nat} {B : Nat → Int} {lim : Nat} {M : aM} (h : EnR (tauN n0) B lim M) : 137 ≤ n0 := h.2.2.2.2 137
theorem LsA_x {n0 : Nat} {M M' : aM} {L : lsT} (hn : 137 ≤ n0) (hF : FrX [8, 9, 10, 11, 12, 13, 14] M M') (h : LsA n0 M L) : LsA n0 M' L := by
  have e : ∀ k, a_I M' n0 k = a_I M n0 k := fun k => hF.2.2.1 n0 k (fun q => by omega)
  unfold LsA
  rw [e, e, e, e, e, e, e, e, e, e]
  exact h
theorem LsN_x {n0 : Nat} {M M' : aM} {L : lsT} (hn : 137 ≤ n0) (hF : FrX [8, 9, 10, 11, 12, 13, 14] M M') (h : LsN n0 M L) : LsN n0 M' L := fun i hi => by
  rw [hF.2.2.2 (n0 + 13) i (fun q => by omega), hF.2.2.1 (n0 + 14) i (fun q => by omega)]
  exact h i hi
theorem LsF_x {n0 : Nat} {M M' : aM} {L : lsT} (hn : 137 ≤ n0) (hF : FrX [8, 9, 10, 11, 12, 13, 14] M M') (h : LsF n0 M L) : LsF n0 M' L := by
  have e : ∀ j k, a_I M' (n0 + j) k = a_I M (n0 + j) k := fun j k => hF.2.2.1 (n0 + j) k (fun q => by omega)
  unfold LsF
  rw [e, e]
  refine ⟨h.1, fun k hk => ?_⟩
  rw [e, e]
  exact h.2 k hk
/-- a reading under way -/
def RdR (n0 : Nat) (B : Nat → Int) (lim : Nat) (M0 M : aM) (m : pmd) (L : lsT) : Prop := EnR (tauN n0) B lim M ∧ StR B lim M m ∧ FrF n0 M0 M ∧ LsA n0 M L ∧ LsN n0 M L ∧ LsF n0 M L
def RdF (n0 : Nat) (B : Nat → Int) (lim : Nat) (M0 M : aM) (m : pmd) (L : lsT) : Prop := EnR (tauN n0) B lim M ∧ StR B lim M m ∧ FrF n0 M0 M ∧ ∀ q, m = .inl q → LsA n0 M L ∧ LsN n0 M L ∧ LsF n0 M L
theorem Rd_x {n0 : Nat} {B : Nat → Int} {lim : Nat} {M0 M M' : aM} {m m' : pmd} {L : lsT} (R : RdR n0 B lim M0 M m L) (f : FrX [8, 9, 10, 11, 12, 13, 14] M M') (S : StR B lim M' m') : RdR n0 B lim M0 M' m' L := ⟨Fx_E (by decide) f R.1, S, Ff_tr R.2.2.1 (Ff_x f), LsA_x (En_n R.1) f R.2.2.2.1, LsN_x (En_n R.1) f R.2.2.2.2.1, LsF_x (En_n R.1) f R.2.2.2.2.2⟩
theorem Rd_w {n0 : Nat} {B : Nat → Int} {lim : Nat} {M0 M : aM} {m : pmd} {L : lsT} {k : Nat} {v : Int32} (hk : [4, 5, 6, 8, 9].any (fun j => Nat.beq k j) = true) (R : RdR n0 B lim M0 M m L) : RdR n0 B lim M0 (s_I M n0 k v) m L := by
  have hn := En_n R.1
  have hne : ∀ j, [0, 1, 2, 3, 7, 10, 11, 12, 13, 14].any (fun i => Nat.beq j i) = true → a_I (s_I M n0 k v) n0 j = a_I M n0 j := fun j hj => by
    rw [aI_sI, if_neg (fun e => by
      rw [e.2] at hj
      obtain ⟨x, x1, x2⟩ := List.any_eq_true.mp hk
      rw [nbT x2] at hj
      have : ∀ x ∈ [4, 5, 6, 8, 9], ([0, 1, 2, 3, 7, 10, 11, 12, 13, 14].any (fun i => Nat.beq x i)) = false := by decide
      rw [this x x1] at hj
      cases hj)]
  refine ⟨En_w hn R.1, St_w hn R.2.1, Ff_s (Nat.le_refl _) R.2.2.1, ?_, fun i hi => ?_, ?_⟩
  · unfold LsA
    rw [hne 0 rfl, hne 1 rfl, hne 2 rfl, hne 3 rfl, hne 7 rfl, hne 10 rfl, hne 11 rfl, hne 13 rfl, hne 12 rfl, hne 14 rfl]
    exact R.2.2.2.1
  · rw [aJ_sI, aI_sI, if_neg (fun q => by omega)]
    exact R.2.2.2.2.1 i hi
  · have e : ∀ j q, a_I (s_I M n0 k v) (n0 + (j + 1)) q = a_I M (n0 + (j + 1)) q := fun j q => by rw [aI_sI, if_neg (fun w => by omega)]
    unfold LsF
    rw [e 7, e 7]
    refine ⟨R.2.2.2.2.2.1, fun q hq => ?_⟩
    rw [e 8, e 9]
    exact R.2.2.2.2.2.2 q hq
theorem pt_inl {B : Nat → Int} {lim : Nat} {w : List Nat} {lo hi : Int} {m : pmd} {q : Nat} (h : m_pt B lim w lo hi m = .inl q) : ∃ p, m = .inl p := by
  rcases m with p | f
  · exact ⟨p, rfl⟩
  · cases h
theorem wh_inl {B : Nat → Int} {lim : Nat} {lo hi : Int} {m : pmd} {q : Nat} (h : m_wh B lim lo hi m = .inl q) : ∃ p, m = .inl p := by
  rcases m with p | f
  · exact ⟨p, rfl⟩
  · cases h
theorem if_inl {B : Nat → Int} {lim k : Nat} {c : Bool} {m : pmd} {q : Nat} (h : m_if B lim k c m = .inl q) : m = .inl q ∧ c = false := by
  cases c with
  | false => exact ⟨h, rfl⟩
  | true => rcases m with p | f <;> cases h
theorem if_ok {B : Nat → Int} {lim k : Nat} {c : Bool} {m : pmd} (h : m_ok B lim m) : m_ok B lim (m_if B lim k c m) := fun p e => h p (if_inl e).1
set_option maxHeartbeats 4000000 in
theorem r_isName {cd : Nat → Nat → Option aI} {z : Bool} (hz : ∀ m p i, cd0 z m p = some i → cd m p = some i) {τ : Nat → Nat} {B : Nat → Int} {lim : Nat} {M : aM} (hE : EnR τ B lim M) {m : pmd} (hS : StR B lim M m) {d : Nat} : wpS cd (d + 6, [], 169, 0, nv_l τ (la 0 [.inr (.inr (some 113))]), [], M) (fun r M' => ∃ x, r = some (.inl x) ∧ M' = M ∧ x = (bif m_name B lim m then 1 else 0)) := by
  show wpS cd (nv_S τ (d + 6, [], 169, 0, la 0 [.inr (.inr (some 113))], [], M)) _
  have hct := hc_of hz
  refine nv_cut hct nvR 169 5 6 (S' := (d + 6, [], 169, 5, [(0, .inr (.inr (some 113)))], [.inl (2 : Int32), .inl (a_I M 113 9)], M)) hE.1 rfl ?_
  cases hw : m_wk B lim m with
  | false =>
    have hne : (a_I M 113 9).toInt ≠ 2 := fun q => by
      rcases m with p | f
      · have := (St_s hS).1.mp q; have hw : Nat.beq (knd B lim p) 1 = false := hw; rw [this] at hw; cases hw
      · rw [hS.1] at q; exact absurd q (by decide)
    refine nv_ifc hct true rfl (ccT5 rfl (show ((2 : Int32)).toInt = 2 from rfl) hne) ?_
    refine nv_cut hct nvR 169 94 4 (S' := (d + 6, [], 169, 94, [(0, .inr (.inr (some 113)))], [.inl (0 : Int32)], M)) hE.1 rfl ?_
    exact nv_iret hct rfl rfl ⟨_, rfl, rfl, by unfold m_name; rw [hw]; rfl⟩
  | true =>
    have hse : (a_I M 113 9).toInt = 2 := by
      rcases m with p | f
      · exact (St_s hS).1.mpr (nbT hw)
      · cases hw
    refine nv_ifc hct false rfl (ccF5 rfl (show ((2 : Int32)).toInt = 2 from rfl) hse) ?_
    refine nv_cut hct nvR 165 0 6 (S' := (d + 5, [(169, 14, [(0, .inr (.inr (some 113)))], [])], 165, 0, la 0 [.inr (.inr (some 113)), .inr (.inr (some (aSB + 26)))], [], M)) hE.1 rfl ?_
    refine nv_calli (r_isWord hz hE hS (k := 26) (by decide)) (fun x1 M1 ⟨e1, hx1⟩ => ?_)
    subst e1
    refine nv_cut hct nvR 169 14 3 (S' := (d + 6, [], 169, 14, [(0, .inr (.inr (some 113)))], [.inl x1], M1)) hE.1 rfl ?_
    cases hc1 : m_is B lim (txc 26) m with
    | true =>
      refine nv_if hct true rfl (zcT5 (show x1.toInt = 1 by rw [hx1, hc1]; rfl) (by decide)) ?_
      refine nv_cut hct nvR 169 94 4 (S' := (d + 6, [], 169, 94, [(0, .inr (.inr (some 113)))], [.inl (0 : Int32)], M1)) hE.1 rfl ?_
      exact nv_iret hct rfl rfl ⟨_, rfl, rfl, by simp only [m_name, nmL, List.all_cons, hw, hc1,  Bool.not_true, Bool.not_false, Bool.and_false, Bool.false_and, Bool.true_and, cond_false]⟩
    | false =>
      refine nv_if hct false rfl (zcF5 (show x1.toInt = 0 by rw [hx1, hc1]; rfl) rfl) ?_
      refine nv_cut hct nvR 165 0 6 (S' := (d + 5, [(169, 23, [(0, .inr (.inr (some 113)))], [])], 165, 0, la 0 [.inr (.inr (some 113)), .inr (.inr (some (aSB + 30)))], [], M1)) hE.1 rfl ?_
      refine nv_calli (r_isWord hz hE hS (k := 30) (by decide)) (fun x2 M2 ⟨e2, hx2⟩ => ?_)
      subst e2
      refine nv_cut hct nvR 169 23 3 (S' := (d + 6, [], 169, 23, [(0, .inr (.inr (some 113)))], [.inl x2], M2)) hE.1 rfl ?_
      cases hc2 : m_is B lim (txc 30) m with
      | true =>
        refine nv_if hct true rfl (zcT5 (show x2.toInt = 1 by rw [hx2, hc2]; rfl) (by decide)) ?_
        refine nv_cut hct nvR 169 94 4 (S' := (d + 6, [], 169, 94, [(0, .inr (.inr (some 113)))], [.inl (0 : Int32)], M2)) hE.1 rfl ?_
        exact nv_iret hct rfl rfl ⟨_, rfl, rfl, by simp only [m_name, nmL, List.all_cons, hw, hc2, hc1,  Bool.not_true, Bool.not_false, Bool.and_false, Bool.false_and, Bool.true_and, cond_false]⟩
      | false =>
        refine nv_if hct false rfl (zcF5 (show x2.toInt = 0 by rw [hx2, hc2]; rfl) rfl) ?_
        refine nv_cut hct nvR 165 0 6 (S' := (d + 5, [(169, 32, [(0, .inr (.inr (some 113)))], [])], 165, 0, la 0 [.inr (.inr (some 113)), .inr (.inr (some (aSB + 34)))], [], M2)) hE.1 rfl ?_
        refine nv_calli (r_isWord hz hE hS (k := 34) (by decide)) (fun x3 M3 ⟨e3, hx3⟩ => ?_)
        subst e3
        refine nv_cut hct nvR 169 32 3 (S' := (d + 6, [], 169, 32, [(0, .inr (.inr (some 113)))], [.inl x3], M3)) hE.1 rfl ?_
        cases hc3 : m_is B lim (txc 34) m with
        | true =>
          refine nv_if hct true rfl (zcT5 (show x3.toInt = 1 by rw [hx3, hc3]; rfl) (by decide)) ?_
          refine nv_cut hct nvR 169 94 4 (S' := (d + 6, [], 169, 94, [(0, .inr (.inr (some 113)))], [.inl (0 : Int32)], M3)) hE.1 rfl ?_
          exact nv_iret hct rfl rfl ⟨_, rfl, rfl, by simp only [m_name, nmL, List.all_cons, hw, hc3, hc1, hc2,  Bool.not_true, Bool.not_false, Bool.and_false, Bool.false_and, Bool.true_and, cond_false]⟩
        | false =>
          refine nv_if hct false rfl (zcF5 (show x3.toInt = 0 by rw [hx3, hc3]; rfl) rfl) ?_
          refine nv_cut hct nvR 165 0 6 (S' := (d + 5, [(169, 41, [(0, .inr (.inr (some 113)))], [])], 165, 0, la 0 [.inr (.inr (some 113)), .inr (.inr (some (aSB + 37)))], [], M3)) hE.1 rfl ?_
          refine nv_calli (r_isWord hz hE hS (k := 37) (by decide)) (fun x4 M4 ⟨e4, hx4⟩ => ?_)
          subst e4
          refine nv_cut hct nvR 169 41 3 (S' := (d + 6, [], 169, 41, [(0, .inr (.inr (some 113)))], [.inl x4], M4)) hE.1 rfl ?_
          cases hc4 : m_is B lim (txc 37) m with
          | true =>
            refine nv_if hct true rfl (zcT5 (show x4.toInt = 1 by rw [hx4, hc4]; rfl) (by decide)) ?_
            refine nv_cut hct nvR 169 94 4 (S' := (d + 6, [], 169, 94, [(0, .inr (.inr (some 113)))], [.inl (0 : Int32)], M4)) hE.1 rfl ?_
            exact nv_iret hct rfl rfl ⟨_, rfl, rfl, by simp only [m_name, nmL, List.all_cons, hw, hc4, hc1, hc2, hc3,  Bool.not_true, Bool.not_false, Bool.and_false, Bool.false_and, Bool.true_and, cond_false]⟩
          | false =>
            refine nv_if hct false rfl (zcF5 (show x4.toInt = 0 by rw [hx4, hc4]; rfl) rfl) ?_
            refine nv_cut hct nvR 165 0 6 (S' := (d + 5, [(169, 50, [(0, .inr (.inr (some 113)))], [])], 165, 0, la 0 [.inr (.inr (some 113)), .inr (.inr (some (aSB + 38)))], [], M4)) hE.1 rfl ?_
            refine nv_calli (r_isWord hz hE hS (k := 38) (by decide)) (fun x5 M5 ⟨e5, hx5⟩ => ?_)
            subst e5
            refine nv_cut hct nvR 169 50 3 (S' := (d + 6, [], 169, 50, [(0, .inr (.inr (some 113)))], [.inl x5], M5)) hE.1 rfl ?_
            cases hc5 : m_is B lim (txc 38) m with
            | true =>
              refine nv_if hct true rfl (zcT5 (show x5.toInt = 1 by rw [hx5, hc5]; rfl) (by decide)) ?_
              refine nv_cut hct nvR 169 94 4 (S' := (d + 6, [], 169, 94, [(0, .inr (.inr (some 113)))], [.inl (0 : Int32)], M5)) hE.1 rfl ?_
              exact nv_iret hct rfl rfl ⟨_, rfl, rfl, by simp only [m_name, nmL, List.all_cons, hw, hc5, hc1, hc2, hc3, hc4,  Bool.not_true, Bool.not_false, Bool.and_false, Bool.false_and, Bool.true_and, cond_false]⟩
            | false =>
              refine nv_if hct false rfl (zcF5 (show x5.toInt = 0 by rw [hx5, hc5]; rfl) rfl) ?_
              refine nv_cut hct nvR 165 0 6 (S' := (d + 5, [(169, 59, [(0, .inr (.inr (some 113)))], [])], 165, 0, la 0 [.inr (.inr (some 113)), .inr (.inr (some (aSB + 39)))], [], M5)) hE.1 rfl ?_
              refine nv_calli (r_isWord hz hE hS (k := 39) (by decide)) (fun x6 M6 ⟨e6, hx6⟩ => ?_)
              subst e6
              refine nv_cut hct nvR 169 59 3 (S' := (d + 6, [], 169, 59, [(0, .inr (.inr (some 113)))], [.inl x6], M6)) hE.1 rfl ?_
              cases hc6 : m_is B lim (txc 39) m with
              | true =>
                refine nv_if hct true rfl (zcT5 (show x6.toInt = 1 by rw [hx6, hc6]; rfl) (by decide)) ?_
                refine nv_cut hct nvR 169 94 4 (S' := (d + 6, [], 169, 94, [(0, .inr (.inr (some 113)))], [.inl (0 : Int32)], M6)) hE.1 rfl ?_
                exact nv_iret hct rfl rfl ⟨_, rfl, rfl, by simp only [m_name, nmL, List.all_cons, hw, hc6, hc1, hc2, hc3, hc4, hc5,  Bool.not_true, Bool.not_false, Bool.and_false, Bool.false_and, Bool.true_and, cond_false]⟩
              | false =>
                refine nv_if hct false rfl (zcF5 (show x6.toInt = 0 by rw [hx6, hc6]; rfl) rfl) ?_
                refine nv_cut hct nvR 165 0 6 (S' := (d + 5, [(169, 68, [(0, .inr (.inr (some 113)))], [])], 165, 0, la 0 [.inr (.inr (some 113)), .inr (.inr (some (aSB + 40)))], [], M6)) hE.1 rfl ?_
                refine nv_calli (r_isWord hz hE hS (k := 40) (by decide)) (fun x7 M7 ⟨e7, hx7⟩ => ?_)
                subst e7
                refine nv_cut hct nvR 169 68 3 (S' := (d + 6, [], 169, 68, [(0, .inr (.inr (some 113)))], [.inl x7], M7)) hE.1 rfl ?_
                cases hc7 : m_is B lim (txc 40) m with
                | true =>
                  refine nv_if hct true rfl (zcT5 (show x7.toInt = 1 by rw [hx7, hc7]; rfl) (by decide)) ?_
                  refine nv_cut hct nvR 169 94 4 (S' := (d + 6, [], 169, 94, [(0, .inr (.inr (some 113)))], [.inl (0 : Int32)], M7)) hE.1 rfl ?_
                  exact nv_iret hct rfl rfl ⟨_, rfl, rfl, by simp only [m_name, nmL, List.all_cons, hw, hc7, hc1, hc2, hc3, hc4, hc5, hc6,  Bool.not_true, Bool.not_false, Bool.and_false, Bool.false_and, Bool.true_and, cond_false]⟩
                | false =>
                  refine nv_if hct false rfl (zcF5 (show x7.toInt = 0 by rw [hx7, hc7]; rfl) rfl) ?_
                  refine nv_cut hct nvR 165 0 6 (S' := (d + 5, [(169, 77, [(0, .inr (.inr (some 113)))], [])], 165, 0, la 0 [.inr (.inr (some 113)), .inr (.inr (some (aSB + 36)))], [], M7)) hE.1 rfl ?_
                  refine nv_calli (r_isWord hz hE hS (k := 36) (by decide)) (fun x8 M8 ⟨e8, hx8⟩ => ?_)
                  subst e8
                  refine nv_cut hct nvR 169 77 3 (S' := (d + 6, [], 169, 77, [(0, .inr (.inr (some 113)))], [.inl x8], M8)) hE.1 rfl ?_
                  cases hc8 : m_is B lim (txc 36) m with
                  | true =>
                    refine nv_if hct true rfl (zcT5 (show x8.toInt = 1 by rw [hx8, hc8]; rfl) (by decide)) ?_
                    refine nv_cut hct nvR 169 94 4 (S' := (d + 6, [], 169, 94, [(0, .inr (.inr (some 113)))], [.inl (0 : Int32)], M8)) hE.1 rfl ?_
                    exact nv_iret hct rfl rfl ⟨_, rfl, rfl, by simp only [m_name, nmL, List.all_cons, hw, hc8, hc1, hc2, hc3, hc4, hc5, hc6, hc7,  Bool.not_true, Bool.not_false, Bool.and_false, Bool.false_and, Bool.true_and, cond_false]⟩
                  | false =>
                    refine nv_if hct false rfl (zcF5 (show x8.toInt = 0 by rw [hx8, hc8]; rfl) rfl) ?_
                    refine nv_cut hct nvR 165 0 6 (S' := (d + 5, [(169, 86, [(0, .inr (.inr (some 113)))], [])], 165, 0, la 0 [.inr (.inr (some 113)), .inr (.inr (some (aSB + 41)))], [], M8)) hE.1 rfl ?_
                    refine nv_calli (r_isWord hz hE hS (k := 41) (by decide)) (fun x9 M9 ⟨e9, hx9⟩ => ?_)
                    subst e9
                    refine nv_cut hct nvR 169 86 3 (S' := (d + 6, [], 169, 86, [(0, .inr (.inr (some 113)))], [.inl x9], M9)) hE.1 rfl ?_
                    cases hc9 : m_is B lim (txc 41) m with
                    | true =>
                      refine nv_if hct true rfl (zcT5 (show x9.toInt = 1 by rw [hx9, hc9]; rfl) (by decide)) ?_
                      refine nv_cut hct nvR 169 94 4 (S' := (d + 6, [], 169, 94, [(0, .inr (.inr (some 113)))], [.inl (0 : Int32)], M9)) hE.1 rfl ?_
                      exact nv_iret hct rfl rfl ⟨_, rfl, rfl, by simp only [m_name, nmL, List.all_cons, hw, hc9, hc1, hc2, hc3, hc4, hc5, hc6, hc7, hc8,  Bool.not_true, Bool.not_false, Bool.and_false, Bool.false_and, Bool.true_and, cond_false]⟩
                    | false =>
                      refine nv_if hct false rfl (zcF5 (show x9.toInt = 0 by rw [hx9, hc9]; rfl) rfl) ?_
                      refine nv_cut hct nvR 169 94 5 (S' := (d + 6, [], 169, 94, [(0, .inr (.inr (some 113)))], [.inl (1 : Int32)], M9)) hE.1 rfl ?_
                      exact nv_iret hct rfl rfl ⟨_, rfl, rfl, by simp only [m_name, nmL, List.all_cons, List.all_nil, hw, hc1, hc2, hc3, hc4, hc5, hc6, hc7, hc8, hc9,  Bool.not_false, Bool.and_true, cond_true]⟩
set_option maxHeartbeats 4000000 in
theorem r_eats {cd : Nat → Nat → Option aI} {z : Bool} (hz : ∀ m p i, cd0 z m p = some i → cd m p = some i) {τ : Nat → Nat} {B : Nat → Int} {lim : Nat} {M : aM} (hE : EnR τ B lim M) {m : pmd} (hS : StR B lim M m) {k : Nat} (hk : k < 52) {d : Nat} : wpS cd (d + 6, [], 166, 0, nv_l τ (la 0 [.inr (.inr (some 113)), .inr (.inr (some (aSB + k)))]), [], M) (fun r M' => ∃ x, r = some (.inl x) ∧ FrX [8, 9, 10, 11, 12, 13, 14] M M' ∧ StR B lim M' (m_eat B lim (txc k) m) ∧ x = (bif m_is B lim (txc k) m then 1 else 0)) := by
  show wpS cd (nv_S τ (d + 6, [], 166, 0, la 0 [.inr (.inr (some 113)), .inr (.inr (some (aSB + k)))], [], M)) _
  have hct := hc_of hz
  refine nv_cut hct nvR 165 0 6 (S' := (d + 5, [(166, 5, [(0, .inr (.inr (some 113))), (1, .inr (.inr (some (aSB + k))))], [])], 165, 0, la 0 [.inr (.inr (some 113)), .inr (.inr (some (aSB + k)))], [], M)) hE.1 rfl ?_
  refine nv_calli (r_isWord hz hE hS hk) (fun x M1 ⟨e1, hx⟩ => ?_)
  subst e1
  refine nv_cut hct nvR 166 7 5 (S' := (d + 6, [], 166, 7, [(2, .inl x), (0, .inr (.inr (some 113))), (1, .inr (.inr (some (aSB + k))))], [.inl x], M1)) hE.1 rfl ?_
  unfold m_eat
  cases hc : m_is B lim (txc k) m with
  | true =>
    have hx : x = 1 := by rw [hx, hc]; rfl
    have hok : m_ok B lim m := by have := wd_ok (B := B) (lim := lim) (w := txc k) (m := m); rw [hc] at this; exact this
    refine nv_if hct false rfl (zcF1 (show x.toInt = 1 by rw [hx]; rfl) (by decide)) ?_
    refine nv_cut hct nvR 162 0 5 (S' := (d + 5, [(166, 14, [(2, .inl x), (0, .inr (.inr (some 113))), (1, .inr (.inr (some (aSB + k))))], [])], 162, 0, la 0 [.inr (.inr (some 113))], [], M1)) hE.1 rfl ?_
    refine nv_callv (r_adv hz hE hS hok) (fun M2 ⟨f1, S1⟩ => ?_)
    refine nv_cut hct nvR 166 15 4 (S' := (d + 6, [], 166, 15, [(2, .inl x), (0, .inr (.inr (some 113))), (1, .inr (.inr (some (aSB + k))))], [.inl x], M2)) (Fx_E (by decide) f1 hE).1 rfl ?_
    exact nv_iret hct rfl (by rw [hx]; rfl) ⟨_, rfl, f1, S1, hx⟩
  | false =>
    have hx : x = 0 := by rw [hx, hc]; rfl
    refine nv_if hct true rfl (zcT1 (show x.toInt = 0 by rw [hx]; rfl) rfl) ?_
    refine nv_cut hct nvR 166 15 4 (S' := (d + 6, [], 166, 15, [(2, .inl x), (0, .inr (.inr (some 113))), (1, .inr (.inr (some (aSB + k))))], [.inl x], M1)) hE.1 rfl ?_
    exact nv_iret hct rfl (by rw [hx]; rfl) ⟨_, rfl, Fx_rf, hS, hx⟩
theorem nv_lald {cd : Nat → Nat → Option aI} {z : Bool} (hz : ∀ m p i, cd0 z m p = some i → cd m p = some i) {T : nv_T} {τ : Nat → Nat} {d mid pc nx a n : Nat} {fs : List aFr} {lo : aL} {st : List aV} {M : aM} {Q : aQ} {i : Int32} (hA : nv_A T τ M) (hi : cd0 z mid pc = some (j_lald nx)) (hk : T.1 a = 16 + 1) (hn : T.2.1 a = n + 1) (hin : inb i n = true) (h : wpS cd (nv_S τ (d, fs, mid, nx, lo, .inr (.inl (a_J M (nv_s τ a) i.toNatClampNeg)) :: st, M)) Q) : wpS cd (nv_S τ (d, fs, mid, pc, lo, .inl i :: .inr (.inr (some a)) :: st, M)) Q := by
  refine wp_step (hz _ _ _ hi) ?_ h
  show (bif (Nat.blt (nv_s τ a) (a_n M) && Nat.beq (a_K M (nv_s τ a)) 16) && inb i (a_N M (nv_s τ a)) then _ else none) = _
  rw [nv_kd hA (by rw [hk]; exact Nat.beq_refl _), hA.2.1 a n hn, hin]
  rfl
theorem nv_last {cd : Nat → Nat → Option aI} {z : Bool} (hz : ∀ m p i, cd0 z m p = some i → cd m p = some i) {T : nv_T} {τ : Nat → Nat} {d mid pc nx a n : Nat} {fs : List aFr} {lo : aL} {st : List aV} {M : aM} {Q : aQ} {i : Int32} {x : Int64} (hA : nv_A T τ M) (hi : cd0 z mid pc = some (j_last nx)) (hk : T.1 a = 16 + 1) (hn : T.2.1 a = n + 1) (hin : inb i n = true) (h : wpS cd (nv_S τ (d, fs, mid, nx, lo, st, s_J M (nv_s τ a) i.toNatClampNeg x)) Q) : wpS cd (nv_S τ (d, fs, mid, pc, lo, .inr (.inl x) :: .inl i :: .inr (.inr (some a)) :: st, M)) Q := by
  refine wp_step (hz _ _ _ hi) ?_ h
  show (bif (Nat.blt (nv_s τ a) (a_n M) && Nat.beq (a_K M (nv_s τ a)) 16) && inb i (a_N M (nv_s τ a)) then _ else none) = _
  rw [nv_kd hA (by rw [hk]; exact Nat.beq_refl _), hA.2.1 a n hn, hin]
  rfl
set_option maxHeartbeats 4000000 in
theorem r_findL {cd : Nat → Nat → Option aI} {z : Bool} (hz : ∀ m p i, cd0 z m p = some i → cd m p = some i) {n0 : Nat} {B : Nat → Int} {lim : Nat} {M : aM} (hE : EnR (tauN n0) B lim M) {n : Nat} (hn : (a_I M n0 14).toInt = (n : Int)) (h8 : n ≤ 8) {w : Int64} {d : Nat} : ∀ (f : Nat) {j : Nat} {i : Int32}, n - j = f → j ≤ n → i.toInt = (j : Int) → wpS cd (nv_S (tauN n0) (d, [], 147, 2, [(3, .inl i), (0, .inr (.inr (some 137))), (1, .inr (.inl w))], [], M)) (fun r M' => ∃ x, r = some (.inl x) ∧ M' = M ∧ x.toInt = fnx (fun j => decide (a_J M (n0 + 13) j = w)) f j) := by
  have hct := hc_of hz
  intro f
  induction f with
  | zero =>
    intro j i h1 h2 hi
    refine nv_cut hct nvR 147 7 6 (S' := (d, [], 147, 7, [(3, .inl i), (0, .inr (.inr (some 137))), (1, .inr (.inl w))], [.inl (a_I M n0 14), .inl i], M)) hE.1 rfl ?_
    refine nv_ifc hct true rfl (ccT4 hi hn (by omega)) ?_
    refine nv_cut hct nvR 147 30 4 (S' := (d, [], 147, 30, [(3, .inl i), (0, .inr (.inr (some 137))), (1, .inr (.inl w))], [.inl (-1 : Int32)], M)) hE.1 rfl ?_
    exact nv_iret hct rfl rfl ⟨_, rfl, rfl, rfl⟩
  | succ f ih =>
    intro j i h1 h2 hi
    refine nv_cut hct nvR 147 7 6 (S' := (d, [], 147, 7, [(3, .inl i), (0, .inr (.inr (some 137))), (1, .inr (.inl w))], [.inl (a_I M n0 14), .inl i], M)) hE.1 rfl ?_
    refine nv_ifc hct false rfl (ccF4 hi hn (by omega)) ?_
    refine nv_cut hct nvR 147 15 6 (S' := (d, [], 147, 15, [(3, .inl i), (0, .inr (.inr (some 137))), (1, .inr (.inl w))], [.inl i, .inr (.inr (some 150))], M)) hE.1 rfl ?_
    refine nv_lald hz hE.1 rfl (show nvR.1 150 = 16 + 1 from rfl) (show nvR.2.1 150 = 8 + 1 from rfl) (inb_p hi (by omega)) ?_
    refine nv_z hz (lo' := [(3, .inl i), (0, .inr (.inr (some 137))), (1, .inr (.inl w))]) (st' := [.inr (.inl w), .inr (.inl (a_J M (n0 + 13) i.toNatClampNeg))]) (M' := M) rfl rfl ?_
    refine nv_z hz (lo' := [(3, .inl i), (0, .inr (.inr (some 137))), (1, .inr (.inl w))]) (st' := [.inl (lg_cmp (a_J M (n0 + 13) i.toNatClampNeg) w)]) (M' := M) rfl rfl ?_
    rw [tnc hi]
    by_cases e : a_J M (n0 + 13) j = w
    · skip
      refine nv_if hct false rfl (zcF5 rfl (by rw [e]; exact Classical.not_not.mp (fun q => (lgc_0.mp q) rfl))) ?_
      refine nv_cut hct nvR 147 22 4 (S' := (d, [], 147, 22, [(3, .inl i), (0, .inr (.inr (some 137))), (1, .inr (.inl w))], [.inl i], M)) hE.1 rfl ?_
      refine nv_iret hct rfl rfl ⟨_, rfl, rfl, ?_⟩
      rw [hi]; show _ = (bif decide (a_J M (n0 + 13) j = w) then (j : Int) else _); rw [decide_eq_true e]; rfl
    · skip
      refine nv_if hct true rfl (zcT5 rfl (lgc_0.mpr e)) ?_
      refine nv_cut hct nvR 147 2 5 (S' := (d, [], 147, 2, [(3, .inl (i + 1)), (0, .inr (.inr (some 137))), (1, .inr (.inl w))], [], M)) hE.1 rfl ?_
      refine wpS_mono (ih (j := j + 1) (by omega) (by omega) (by rw [add_p hi (by omega) (by omega)]; omega)) (fun r M1 h => ?_)
      obtain ⟨x, x1, x2, x3⟩ := h
      exact ⟨x, x1, x2, by rw [x3]; show _ = (bif decide (a_J M (n0 + 13) j = w) then (j : Int) else _); rw [decide_eq_false e]; rfl⟩
theorem r_find {cd : Nat → Nat → Option aI} {z : Bool} (hz : ∀ m p i, cd0 z m p = some i → cd m p = some i) {n0 : Nat} {B : Nat → Int} {lim : Nat} {M0 M : aM} {m : pmd} {L : lsT} (R : RdR n0 B lim M0 M m L) {w : Int64} {d : Nat} : wpS cd (d, [], 147, 0, nv_l (tauN n0) (la 0 [.inr (.inr (some 137)), .inr (.inl w)]), [], M) (fun r M' => ∃ x, r = some (.inl x) ∧ M' = M ∧ x.toInt = l_fd L w.toInt) := by
  have hct := hc_of hz
  have hn := R.2.2.2.1.2.2.2.2.2.2.2
  have ha := R.2.2.2.1.2.2.2.1
  have hs := R.2.2.2.1.2.2.2.2.2.1
  show wpS cd (nv_S (tauN n0) (d, [], 147, 0, la 0 [.inr (.inr (some 137)), .inr (.inl w)], [], M)) _
  refine nv_cut hct nvR 147 2 5 (S' := (d, [], 147, 2, [(3, .inl (0 : Int32)), (0, .inr (.inr (some 137))), (1, .inr (.inl w))], [], M)) R.1.1 rfl ?_
  refine wpS_mono (r_findL hz R.1 hn.1 hn.2 (w := w) _ rfl (Nat.zero_le _) rfl) (fun r M' h => ?_)
  obtain ⟨x, x1, x2, x3⟩ := h
  refine ⟨x, x1, x2, ?_⟩
  rw [x3, Nat.sub_zero]
  unfold l_fd
  exact fnx_cong (fun k h1 h2 => by
    have := (R.2.2.2.2.1 k (by omega)).1
    by_cases e : a_J M (n0 + 13) k = w
    · rw [decide_eq_true e, decide_eq_true (by rw [← this, e])]
    · rw [decide_eq_false e, decide_eq_false (fun q => e (Int64.toInt_inj.mp (by rw [this]; exact q)))])

/-! fault, where, rod, rows: what they answer: printed by wip/gen/func.py -/
def nvV_K (a : Nat) : Nat := bif Nat.beq a 300 then 9 else nvB_K a
def nvV_P (a k : Nat) : Option (Option Nat) := bif Nat.beq a 0 && Nat.beq k 7 then some (some 300) else nvB_P a k
def nvV : nv_T := (nvV_K, nvB_N, nvV_P)
theorem nvV_A {b : Bool} {rg : Nat → Nat} {M : aM} (hL : LB b rg M) : nv_A nvV (tauC (cur b)) M := by
  have h : nv_A nvB (tauC (cur b)) M := LB_nv hL
  have hc : cur b < 137 := by cases b <;> decide
  have h3 : nv_s (tauC (cur b)) 300 = cur b := rfl
  refine ⟨fun a c e => ?_, h.2.1, fun a k r e => ?_⟩
  · have e : nvV_K a = c + 1 := e
    unfold nvV_K at e
    cases hb : Nat.beq a 300 with
    | true =>
      rw [hb] at e
      have e : 9 = c + 1 := e
      rw [nbT hb, h3]
      refine ⟨lo_n hL hc, ?_⟩
      rw [(hL.1.2 (cur b) (lo_n hL hc)).1, hL.2.1 (cur b) hc, show c = 8 by omega]
      cases b <;> rfl
    | false => rw [hb] at e; exact h.1 a c e
  · have e : nvV_P a k = some r := e
    unfold nvV_P at e
    cases hb : (Nat.beq a 0 && Nat.beq k 7) with
    | true =>
      rw [hb] at e
      obtain ⟨b1, b2⟩ := (Bool.and_eq_true _ _).mp hb
      cases e
      rw [nbT b1, nbT b2, nv_lo (by omega), hL.2.2.2.2.2.2.1]
      show some _ = some (nv_s (tauC (cur b)) 300)
      rw [h3]
      cases b <;> rfl
    | false => rw [hb] at e; exact h.2.2 a k r e
theorem isB_of {x : Int32} (h : 0 ≤ x.toInt ∧ x.toInt ≤ 1) : isB x = true := by
  unfold isB
  rcases (show x.toInt = 0 ∨ x.toInt = 1 by omega) with e | e
  · rw [show x = 0 from Int32.toInt_inj.mp e]; rfl
  · rw [show x = 1 from Int32.toInt_inj.mp e]; rfl
set_option maxHeartbeats 4000000 in
theorem cf_fault {cd : Nat → Nat → Option aI} {z : Bool} (hz : ∀ m p i, cd0 z m p = some i → cd m p = some i) {b : Bool} {rg : Nat → Nat} {M : aM} (hL : LB b rg M) {d : Nat} : wpS cd (d, [], 106, 0, nv_l (tauC (cur b)) (la 0 [.inr (.inr (some 0))]), [], M) (fun r M' => ∃ y, r = some (.inl y) ∧ y = a_I M 0 10) := by
  show wpS cd (nv_S (tauC (cur b)) (d, [], 106, 0, la 0 [.inr (.inr (some 0))], [], M)) _
  have hct := hc_of hz
  have hA := nvV_A hL
  refine nv_cut hct nvV 106 4 5 (S' := (d, [], 106, 4, [(0, .inr (.inr (some 0)))], [.inl (a_I M 0 10)], M)) hA rfl ?_
  exact nv_iret hct rfl rfl ⟨_, rfl, rfl⟩
set_option maxHeartbeats 4000000 in
theorem cf_where {cd : Nat → Nat → Option aI} {z : Bool} (hz : ∀ m p i, cd0 z m p = some i → cd m p = some i) {b : Bool} {rg : Nat → Nat} {M : aM} (hL : LB b rg M) {d : Nat} : wpS cd (d, [], 107, 0, nv_l (tauC (cur b)) (la 0 [.inr (.inr (some 0))]), [], M) (fun r M' => ∃ y, r = some (.inl y) ∧ y = (if a_I M 0 9 = 4 then a_I M 0 11 else -1)) := by
  show wpS cd (nv_S (tauC (cur b)) (d, [], 107, 0, la 0 [.inr (.inr (some 0))], [], M)) _
  have hct := hc_of hz
  have hA := nvV_A hL
  refine nv_cut hct nvV 107 5 6 (S' := (d, [], 107, 5, [(0, .inr (.inr (some 0)))], [.inl (4 : Int32), .inl (a_I M 0 9)], M)) hA rfl ?_
  by_cases c : a_I M 0 9 = 4
  · skip
    refine nv_ifc hct false rfl (ccF5 rfl rfl (by rw [c])) ?_
    refine nv_cut hct nvV 107 16 6 (S' := (d, [], 107, 16, [(0, .inr (.inr (some 0)))], [.inl (a_I M 0 11)], M)) hA rfl ?_
    exact nv_iret hct rfl rfl ⟨_, rfl, by rw [if_pos c]⟩
  · skip
    refine nv_ifc hct true rfl (ccT5 rfl rfl (fun e => c (Int32.toInt_inj.mp e))) ?_
    refine nv_cut hct nvV 107 16 4 (S' := (d, [], 107, 16, [(0, .inr (.inr (some 0)))], [.inl (-1 : Int32)], M)) hA rfl ?_
    exact nv_iret hct rfl rfl ⟨_, rfl, by rw [if_neg c]⟩
set_option maxHeartbeats 4000000 in
theorem cf_rod {cd : Nat → Nat → Option aI} {z : Bool} (hz : ∀ m p i, cd0 z m p = some i → cd m p = some i) {b : Bool} {rg : Nat → Nat} {M : aM} (hL : LB b rg M) (x1 : Int32) (h1 : 0 ≤ x1.toInt ∧ x1.toInt ≤ 1) {d : Nat} : wpS cd (d + 2, [], 108, 0, nv_l (tauC (cur b)) (la 0 [.inr (.inr (some 0)), .inl x1]), [], M) (fun r M' => ∃ y, r = some (.inl y) ∧ y = (if a_I M 0 8 = 0 then 0 else 1)) := by
  show wpS cd (nv_S (tauC (cur b)) (d + 2, [], 108, 0, la 0 [.inr (.inr (some 0)), .inl x1], [], M)) _
  have hct := hc_of hz
  have hA := nvV_A hL
  refine nv_cut hct nvV 108 4 5 (S' := (d + 2, [], 108, 4, [(0, .inr (.inr (some 0))), (1, .inl x1)], [.inl (a_I M 0 8)], M)) hA rfl ?_
  by_cases c : a_I M 0 8 = 0
  · skip
    refine nv_if hct false rfl (zcF5 rfl (by rw [c]; rfl)) ?_
    refine nv_cut hct nvV 108 14 13 (S' := (d + 2, [], 108, 14, [(0, .inr (.inr (some 0))), (1, .inl x1)], [.inl (0 : Int32)], (s_I M 0 9 (1 : Int32)))) hA rfl ?_
    exact nv_iret hct rfl rfl ⟨_, rfl, by rw [if_pos c]⟩
  · skip
    refine nv_if hct true rfl (zcT5 rfl (fun e => c (Int32.toInt_inj.mp e))) ?_
    refine nv_cut hct nvV 23 16 48 (S' := (d + 1, [(108, 23, [(0, .inr (.inr (some 0))), (1, .inl x1)], [])], 23, 16, [(0, .inr (.inr (some 19))), (1, .inl x1)], [.inl x1, .inr (.inr (some 19))], (s_I (s_I (s_I (s_I (s_I (s_I (s_I (s_I (s_I (s_I (s_I M 20 0 (0 : Int32)) 20 1 (0 : Int32)) 20 2 (0 : Int32)) 20 3 (0 : Int32)) 20 4 (0 : Int32)) 20 5 (0 : Int32)) 20 6 (0 : Int32)) 20 7 (0 : Int32)) 20 8 (0 : Int32)) 20 9 (0 : Int32)) 19 5 (0 : Int32)))) hA rfl ?_
    refine nv_putb hct (nv_As (nv_As (nv_As (nv_As (nv_As (nv_As (nv_As (nv_As (nv_As (nv_As (nv_As hA))))))))))) rfl (show nvV.1 19 = 3 + 1 from rfl) (isB_of h1) ?_
    refine nv_cut hct nvV 108 30 14 (S' := (d + 2, [], 108, 30, [(0, .inr (.inr (some 0))), (1, .inl x1)], [.inl (1 : Int32)], (s_I (s_I (s_I (s_I (s_I (s_I (s_I (s_I (s_I (s_I (s_I (s_I (s_I M 20 0 (0 : Int32)) 20 1 (0 : Int32)) 20 2 (0 : Int32)) 20 3 (0 : Int32)) 20 4 (0 : Int32)) 20 5 (0 : Int32)) 20 6 (0 : Int32)) 20 7 (0 : Int32)) 20 8 (0 : Int32)) 20 9 (0 : Int32)) 19 5 (0 : Int32)) 19 6 x1) 0 9 (0 : Int32)))) (nv_As (nv_As (nv_As (nv_As (nv_As (nv_As (nv_As (nv_As (nv_As (nv_As (nv_As (nv_As hA)))))))))))) rfl ?_
    exact nv_iret hct rfl rfl ⟨_, rfl, by rw [if_neg c]⟩
set_option maxHeartbeats 4000000 in
theorem rf_fault {cd : Nat → Nat → Option aI} {z : Bool} (hz : ∀ m p i, cd0 z m p = some i → cd m p = some i) {b : Bool} {rg : Nat → Nat} {M : aM} (hL : LB b rg M) {d : Nat} : wpS cd (d, [], 182, 0, nv_l id (la 0 [.inr (.inr (some 113))]), [], M) (fun r M' => ∃ y, r = some (.inl y) ∧ y = a_I M 113 13) := by
  show wpS cd (nv_S id (d, [], 182, 0, la 0 [.inr (.inr (some 113))], [], M)) _
  have hct := hc_of hz
  have hA := LB_nv (τ := id) hL
  refine nv_cut hct nvB 182 9 8 (S' := (d, [], 182, 9, [(0, .inr (.inr (some 113)))], [.inl (a_I M 113 13)], (s_I M 113 0 (0 : Int32)))) hA rfl ?_
  exact nv_iret hct rfl rfl ⟨_, rfl, rfl⟩
set_option maxHeartbeats 4000000 in
theorem rf_where {cd : Nat → Nat → Option aI} {z : Bool} (hz : ∀ m p i, cd0 z m p = some i → cd m p = some i) {b : Bool} {rg : Nat → Nat} {M : aM} (hL : LB b rg M) {d : Nat} : wpS cd (d, [], 183, 0, nv_l id (la 0 [.inr (.inr (some 113))]), [], M) (fun r M' => ∃ y, r = some (.inl y) ∧ y = a_I M 113 2) := by
  show wpS cd (nv_S id (d, [], 183, 0, la 0 [.inr (.inr (some 113))], [], M)) _
  have hct := hc_of hz
  have hA := LB_nv (τ := id) hL
  refine nv_cut hct nvB 183 9 8 (S' := (d, [], 183, 9, [(0, .inr (.inr (some 113)))], [.inl (a_I M 113 2)], (s_I M 113 0 (0 : Int32)))) hA rfl ?_
  exact nv_iret hct rfl rfl ⟨_, rfl, rfl⟩
/-- four for every inch behind the bush -/
def pw (bu : Nat) : Nat → Nat
  | 0 => 1
  | j + 1 => if j < bu then pw bu j else pw bu j * 4
theorem pw_le {bu : Nat} : ∀ {j : Nat}, j ≤ 9 → 1 ≤ pw bu j ∧ pw bu j ≤ 4 ^ j
  | 0, _ => ⟨Nat.le_refl _, Nat.le_refl _⟩
  | j + 1, h => by
    have := pw_le (bu := bu) (j := j) (by omega)
    unfold pw
    rw [Nat.pow_succ]
    split <;> omega
theorem pw_9 {bu j : Nat} (h : j ≤ 9) : 1 ≤ pw bu j ∧ pw bu j ≤ 262144 := by
  have h1 := pw_le (bu := bu) h
  have : 4 ^ j ≤ 4 ^ 9 := Nat.pow_le_pow_right (by omega) h
  have e : (4 : Nat) ^ 9 = 262144 := rfl
  omega
/-- what rows answers -/
def RwA (hs : Bool) (n bu : Int) (x y : Int32) : Prop := (hs = false ∧ y = -1) ∨ (hs = true ∧ ((¬ (1 ≤ x.toInt ∧ x.toInt ≤ 9 ∧ x.toInt ≤ n) ∧ y = -1) ∨ ((1 ≤ x.toInt ∧ x.toInt ≤ 9 ∧ x.toInt ≤ n) ∧ y.toInt = (pw bu.toNat x.toInt.toNat : Int))))
theorem RwA_eq {hs : Bool} {n bu : Int} {x y y' : Int32} (h : RwA hs n bu x y) (h' : RwA hs n bu x y') : y = y' := by
  rcases h with ⟨a1, a2⟩ | ⟨a1, ⟨a2, a3⟩ | ⟨a2, a3⟩⟩ <;> rcases h' with ⟨b1, b2⟩ | ⟨b1, ⟨b2, b3⟩ | ⟨b2, b3⟩⟩
  · rw [a2, b2]
  · rw [a1] at b1; cases b1
  · rw [a1] at b1; cases b1
  · rw [a1] at b1; cases b1
  · rw [a3, b3]
  · exact absurd b2 a2
  · rw [a1] at b1; cases b1
  · exact absurd a2 b2
  · exact Int32.toInt_inj.mp (a3.trans b3.symm)
theorem mul_4 {x : Int32} {p : Nat} (h : x.toInt = (p : Int)) (h2 : p ≤ 300000) : (x * 4).toInt = ((p * 4 : Nat) : Int) := by
  rw [mul_i]
  · rw [h]; show (p : Int) * 4 = _; omega
  · rw [h]; show (-2147483648 : Int) ≤ (p : Int) * 4; omega
  · rw [h]; show (p : Int) * 4 ≤ (2147483647 : Int); omega
set_option maxHeartbeats 4000000 in
theorem cf_rwL {cd : Nat → Nat → Option aI} {z : Bool} (hz : ∀ m p i, cd0 z m p = some i → cd m p = some i) {b : Bool} {rg : Nat → Nat} {M : aM} (hL : LB b rg M) {x1 : Int32} {n bu : Nat} (hx : x1.toInt = (n : Int)) (hn : n ≤ 9) (hbu : (a_I M (cur b) 2).toInt = (bu : Int)) {d : Nat} : ∀ (f : Nat) {j : Nat} {i al : Int32} {lo : aL}, j + f = n → i.toInt = (j : Int) → al.toInt = (pw bu j : Int) → (lo = [(4, .inl i), (3, .inl al), (2, .inl 0), (0, .inr (.inr (some 0))), (1, .inl x1)] ∨ lo = [(4, .inl i), (3, .inl al), (2, .inl 0), (0, .inr (.inr (some 0))), (1, .inl x1)]) → wpS cd (nv_S (tauC (cur b)) (d + 1, [], 113, 21, lo, [], M)) (fun r M' => ∃ y, r = some (.inl y) ∧ y.toInt = (pw bu n : Int)) := by
  have hct := hc_of hz
  have hA := nvV_A hL
  intro f
  induction f with
  | zero =>
    intro j i al lo h2 hi hal hlo
    have hlo : lo = [(4, .inl i), (3, .inl al), (2, .inl 0), (0, .inr (.inr (some 0))), (1, .inl x1)] := hlo.elim id id
    subst hlo
    refine nv_cut hct nvV 113 24 5 (S' := (d + 1, [], 113, 24, [(4, .inl i), (3, .inl al), (2, .inl (0 : Int32)), (0, .inr (.inr (some 0))), (1, .inl x1)], [.inl x1, .inl i], M)) hA rfl ?_
    refine nv_ifc hct true rfl (ccT4 hi hx (by omega)) ?_
    refine nv_cut hct nvV 113 54 11 (S' := (d + 1, [], 113, 54, [(4, .inl i), (3, .inl al), (2, .inl (0 : Int32)), (0, .inr (.inr (some 0))), (1, .inl x1)], [.inl al], (s_I M 0 9 (0 : Int32)))) hA rfl ?_
    exact nv_iret hct rfl rfl ⟨_, rfl, by rw [hal, show n = j by omega]⟩
  | succ f ih =>
    intro j i al lo h2 hi hal hlo
    have hlo : lo = [(4, .inl i), (3, .inl al), (2, .inl 0), (0, .inr (.inr (some 0))), (1, .inl x1)] := hlo.elim id id
    subst hlo
    have hip : (i + 1).toInt = ((j + 1 : Nat) : Int) := by rw [add_p hi (by omega) (by omega)]; omega
    have hb9 : (a_I M (nv_s (tauC (cur b)) 300) 2).toInt = (bu : Int) := hbu
    have hp := pw_9 (bu := bu) (j := j) (by omega)
    refine nv_cut hct nvV 113 24 5 (S' := (d + 1, [], 113, 24, [(4, .inl i), (3, .inl al), (2, .inl (0 : Int32)), (0, .inr (.inr (some 0))), (1, .inl x1)], [.inl x1, .inl i], M)) hA rfl ?_
    refine nv_ifc hct false rfl (ccF4 hi hx (by omega)) ?_
    refine nv_cut hct nvV 113 36 7 (S' := (d + 1, [], 113, 36, [(4, .inl i), (3, .inl al), (2, .inl (0 : Int32)), (0, .inr (.inr (some 0))), (1, .inl x1)], [.inl (a_I M (nv_s (tauC (cur b)) 300) 2), .inl i], M)) hA rfl ?_
    by_cases c : j < bu
    · skip
      refine nv_ifc hct true rfl (ccT0 hi hb9 (by omega)) ?_
      refine nv_cut hct nvV 113 21 5 (S' := (d + 1, [], 113, 21, [(4, .inl (i + 1)), (3, .inl al), (2, .inl (0 : Int32)), (0, .inr (.inr (some 0))), (1, .inl x1)], [], M)) hA rfl ?_
      exact ih (j := j + 1) (by omega) hip (by show _ = ((if j < bu then pw bu j else pw bu j * 4 : Nat) : Int); rw [if_pos c]; exact hal) (Or.inl rfl)
    · skip
      refine nv_ifc hct false rfl (ccF0 hi hb9 (by omega)) ?_
      refine nv_cut hct nvV 113 21 9 (S' := (d + 1, [], 113, 21, [(4, .inl (i + 1)), (3, .inl (al * (4 : Int32))), (2, .inl (0 : Int32)), (0, .inr (.inr (some 0))), (1, .inl x1)], [], M)) hA rfl ?_
      exact ih (j := j + 1) (by omega) hip (by show _ = ((if j < bu then pw bu j else pw bu j * 4 : Nat) : Int); rw [if_neg c]; exact mul_4 hal (by omega)) (Or.inl rfl)
set_option maxHeartbeats 4000000 in
theorem cf_rows {cd : Nat → Nat → Option aI} {z : Bool} (hz : ∀ m p i, cd0 z m p = some i → cd m p = some i) {b : Bool} {rg : Nat → Nat} {M : aM} (hL : LB b rg M) (x1 : Int32) (hbu : 0 ≤ (a_I M (cur b) 2).toInt) {d : Nat} : wpS cd (d + 1, [], 113, 0, nv_l (tauC (cur b)) (la 0 [.inr (.inr (some 0)), .inl x1]), [], M) (fun r M' => ∃ y, r = some (.inl y) ∧ RwA (!decide (a_I M 0 8 = 0)) (a_I M (cur b) 0).toInt (a_I M (cur b) 2).toInt x1 y) := by
  show wpS cd (nv_S (tauC (cur b)) (d + 1, [], 113, 0, la 0 [.inr (.inr (some 0)), .inl x1], [], M)) _
  have hct := hc_of hz
  have hA := nvV_A hL
  have hin : (a_I M (nv_s (tauC (cur b)) 300) 0).toInt = (a_I M (cur b) 0).toInt := rfl
  refine nv_cut hct nvV 141 4 8 (S' := (d, [(113, 5, [(0, .inr (.inr (some 0))), (1, .inl x1)], [])], 141, 4, [(0, .inr (.inr (some 0))), (1, .inl x1)], [.inl (a_I M 0 8)], M)) hA rfl ?_
  by_cases c0 : a_I M 0 8 = 0
  · skip
    refine nv_if hct false rfl (zcF5 rfl (by rw [c0]; rfl)) ?_
    refine nv_cut hct nvV 113 15 16 (S' := (d + 1, [], 113, 15, [(2, .inl (1 : Int32)), (0, .inr (.inr (some 0))), (1, .inl x1)], [.inl (-1 : Int32)], (s_I M 0 9 (1 : Int32)))) hA rfl ?_
    exact nv_iret hct rfl rfl ⟨_, rfl, Or.inl ⟨by rw [decide_eq_true c0]; rfl, rfl⟩⟩
  · skip
    refine nv_if hct true rfl (zcT5 rfl (fun e => c0 (Int32.toInt_inj.mp e))) ?_
    refine nv_cut hct nvV 141 11 5 (S' := (d, [(113, 5, [(0, .inr (.inr (some 0))), (1, .inl x1)], [])], 141, 11, [(0, .inr (.inr (some 0))), (1, .inl x1)], [.inl (1 : Int32), .inl x1], M)) hA rfl ?_
    have hs : (!decide (a_I M 0 8 = 0)) = true := by rw [decide_eq_false c0]; rfl
    by_cases c1 : x1.toInt < 1
    · skip
      refine nv_ifc hct true rfl (ccT0 rfl (show ((1 : Int32)).toInt = 1 from rfl) c1) ?_
      refine nv_cut hct nvV 113 15 17 (S' := (d + 1, [], 113, 15, [(2, .inl (2 : Int32)), (0, .inr (.inr (some 0))), (1, .inl x1)], [.inl (-1 : Int32)], (s_I M 0 9 (2 : Int32)))) hA rfl ?_
      exact nv_iret hct rfl rfl ⟨_, rfl, Or.inr ⟨hs, Or.inl ⟨by omega, rfl⟩⟩⟩
    · skip
      refine nv_ifc hct false rfl (ccF0 rfl (show ((1 : Int32)).toInt = 1 from rfl) (by omega)) ?_
      refine nv_cut hct nvV 141 17 5 (S' := (d, [(113, 5, [(0, .inr (.inr (some 0))), (1, .inl x1)], [])], 141, 17, [(0, .inr (.inr (some 0))), (1, .inl x1)], [.inl (9 : Int32), .inl x1], M)) hA rfl ?_
      by_cases c2 : 9 < x1.toInt
      · skip
        refine nv_ifc hct true rfl (ccT3 rfl (show ((9 : Int32)).toInt = 9 from rfl) c2) ?_
        refine nv_cut hct nvV 113 15 17 (S' := (d + 1, [], 113, 15, [(2, .inl (2 : Int32)), (0, .inr (.inr (some 0))), (1, .inl x1)], [.inl (-1 : Int32)], (s_I M 0 9 (2 : Int32)))) hA rfl ?_
        exact nv_iret hct rfl rfl ⟨_, rfl, Or.inr ⟨hs, Or.inl ⟨by omega, rfl⟩⟩⟩
      · skip
        refine nv_ifc hct false rfl (ccF3 rfl (show ((9 : Int32)).toInt = 9 from rfl) (by omega)) ?_
        refine nv_cut hct nvV 141 28 7 (S' := (d, [(113, 5, [(0, .inr (.inr (some 0))), (1, .inl x1)], [])], 141, 28, [(0, .inr (.inr (some 0))), (1, .inl x1)], [.inl (a_I M (nv_s (tauC (cur b)) 300) 0), .inl x1], M)) hA rfl ?_
        by_cases c3 : x1.toInt ≤ (a_I M (cur b) 0).toInt
        · skip
          refine nv_ifc hct true rfl (ccT2 rfl hin c3) ?_
          refine nv_cut hct nvV 113 21 12 (S' := (d + 1, [], 113, 21, [(4, .inl (0 : Int32)), (3, .inl (1 : Int32)), (2, .inl (0 : Int32)), (0, .inr (.inr (some 0))), (1, .inl x1)], [], M)) hA rfl ?_
          obtain ⟨n, hn⟩ : ∃ n : Nat, x1.toInt = (n : Int) := ⟨x1.toInt.toNat, by omega⟩
          obtain ⟨bu, hb9⟩ : ∃ n : Nat, (a_I M (cur b) 2).toInt = (n : Int) := ⟨(a_I M (cur b) 2).toInt.toNat, by omega⟩
          refine wpS_mono (cf_rwL hz hL hn (by omega) hb9 n (j := 0) (by omega) rfl rfl (Or.inl rfl)) (fun r M' h => ?_)
          obtain ⟨y, y1, y2⟩ := h
          exact ⟨y, y1, Or.inr ⟨hs, Or.inr ⟨by omega, by rw [hn, hb9]; exact y2⟩⟩⟩
        · skip
          refine nv_ifc hct false rfl (ccF2 rfl hin (by omega)) ?_
          refine nv_cut hct nvV 113 15 17 (S' := (d + 1, [], 113, 15, [(2, .inl (2 : Int32)), (0, .inr (.inr (some 0))), (1, .inl x1)], [.inl (-1 : Int32)], (s_I M 0 9 (2 : Int32)))) hA rfl ?_
          exact nv_iret hct rfl rfl ⟨_, rfl, Or.inr ⟨hs, Or.inl ⟨by omega, rfl⟩⟩⟩
set_option maxHeartbeats 4000000 in
theorem rf_rows0 {cd : Nat → Nat → Option aI} {z : Bool} (hz : ∀ m p i, cd0 z m p = some i → cd m p = some i) {b : Bool} {rg : Nat → Nat} {M : aM} (hL : LB b rg M) (x1 : Int32) {τ : Nat → Nat} (hA : nv_A nvO τ M) {d : Nat} : wpS cd (d + 1, [], 200, 0, nv_l τ (la 0 [.inr (.inr (some 113)), .inl x1]), [], M) (fun r M' => ∃ y, r = some (.inl y) ∧ y = -1) := by
  show wpS cd (nv_S τ (d + 1, [], 200, 0, la 0 [.inr (.inr (some 113)), .inl x1], [], M)) _
  have hct := hc_of hz
  refine nv_cut hct nvO 200 17 20 (S' := (d + 1, [], 200, 17, [(0, .inr (.inr (some 113))), (1, .inl x1)], [.inl (-1 : Int32)], (s_I (s_I (s_I M 113 0 (0 : Int32)) 113 1 (1 : Int32)) 113 2 (-1 : Int32)))) hA rfl ?_
  exact nv_iret hct rfl rfl ⟨_, rfl, rfl⟩
theorem shl_ok : ∀ bu : Fin 10, ∀ n : Fin 10, (binf 4 (1 : Int32) (2 * (if bu.1 < n.1 then Int32.ofNat (n.1 - bu.1) else 0))).toInt = (pw bu.1 n.1 : Int) := by decide +kernel
theorem sc_ok {bu n : Nat} {s : Int32} (hb : bu ≤ 9) (hn : n ≤ 9) (hs : s.toInt = ((if bu < n then n - bu else 0 : Nat) : Int)) : (binf 4 (1 : Int32) (2 * s)).toInt = (pw bu n : Int) := by
  have e : s = if bu < n then Int32.ofNat (n - bu) else 0 := Int32.toInt_inj.mp (by
    rw [hs]
    split
    · exact (Int32.toInt_ofNat_of_lt (by omega)).symm
    · rfl)
  rw [e]
  exact shl_ok ⟨bu, by omega⟩ ⟨n, by omega⟩
set_option maxHeartbeats 4000000 in
theorem rf_rows1 {cd : Nat → Nat → Option aI} {z : Bool} (hz : ∀ m p i, cd0 z m p = some i → cd m p = some i) {b : Bool} {rg : Nat → Nat} {M : aM} (hL : LB b rg M) (hJ : JM rg M) (x1 : Int32) {u : Nat} (hu : a_P M 113 3 = some u) {d : Nat} : wpS cd (d + 2, [], 200, 0, nv_l (tauN u) (la 0 [.inr (.inr (some 113)), .inl x1]), [], M) (fun r M' => ∃ y, r = some (.inl y) ∧ RwA true (a_I M u 0).toInt (a_I M u 2).toInt x1 y) := by
  show wpS cd (nv_S (tauN u) (d + 2, [], 200, 0, la 0 [.inr (.inr (some 113)), .inl x1], [], M)) _
  have hct := hc_of hz
  have hj := JM_u hJ hu
  have hA := LB_nvU hL hu hj
  obtain ⟨⟨n2, n3⟩, _, hu1, hu2, hu3⟩ := JS_in hL hj
  have hbu : 0 ≤ (a_I M u 2).toInt ∧ (a_I M u 2).toInt ≤ 9 := by
    have q := (hL.1.2 u hj.1).2.2; rw [hj.2.1] at q; exact q 2 (by decide)
  have hU : nv_s (tauN u) 137 = u := by rw [show (137 : Nat) = 137 + 0 from rfl, nv_hi (by omega), Nat.add_zero]
  have hin : (a_I (s_I M 113 0 0) (nv_s (tauN u) 137) 0).toInt = (a_I M u 0).toInt := by rw [hU, aI_nk (fun q => hu3 q.1)]
  have hb9 : (a_I (s_I M 113 0 0) (nv_s (tauN u) 137) 2).toInt = (a_I M u 2).toInt := by rw [hU, aI_nk (fun q => hu3 q.1)]
  refine nv_cut hct nvU 156 0 17 (S' := (d, [(198, 6, [(0, .inr (.inr (some 113))), (1, .inl x1), (2, .inl (9 : Int32))], []), (200, 25, [(0, .inr (.inr (some 113))), (1, .inl x1)], [])], 156, 0, la 0 [.inl x1, .inl (1 : Int32), .inl (9 : Int32)], [], (s_I M 113 0 (0 : Int32)))) hA rfl ?_
  refine nv_calli (r_inB hz (nvU_B (nv_As hA))) (fun y1 Ny1 ⟨ey1, cy1⟩ => ?_)
  subst ey1
  rcases cy1 with ⟨ey1, cy1⟩ | ⟨ey1, cy1⟩
  · skip
    subst ey1
    have cy1 : (1 : Int) ≤ x1.toInt ∧ x1.toInt ≤ 9 := cy1
    refine nv_cut hct nvU 198 17 8 (S' := (d + 1, [(200, 25, [(0, .inr (.inr (some 113))), (1, .inl x1)], [])], 198, 17, [(0, .inr (.inr (some 113))), (1, .inl x1), (2, .inl (9 : Int32))], [.inl (a_I (s_I M 113 0 (0 : Int32)) (nv_s (tauN u) 137) 0), .inl x1], (s_I M 113 0 (0 : Int32)))) (nv_As hA) rfl ?_
    by_cases c3 : (a_I M u 0).toInt < x1.toInt
    · skip
      refine nv_ifc hct true rfl (ccT3 rfl hin c3) ?_
      refine nv_cut hct nvU 200 49 17 (S' := (d + 2, [], 200, 49, [(0, .inr (.inr (some 113))), (1, .inl x1)], [.inl (-1 : Int32)], (s_I (s_I (s_I M 113 0 (0 : Int32)) 113 1 (2 : Int32)) 113 2 (-1 : Int32)))) (nv_As hA) rfl ?_
      exact nv_iret hct rfl rfl ⟨_, rfl, Or.inr ⟨rfl, Or.inl ⟨by omega, rfl⟩⟩⟩
    · skip
      refine nv_ifc hct false rfl (ccF3 rfl hin (by omega)) ?_
      refine nv_cut hct nvU 197 8 17 (S' := (d + 1, [(200, 36, [(0, .inr (.inr (some 113))), (1, .inl x1)], [.inl (2 : Int32), .inl (1 : Int32), .inr (.inr (some 113))])], 197, 8, [(0, .inr (.inr (some 113))), (1, .inl x1)], [.inl (a_I (s_I M 113 0 (0 : Int32)) (nv_s (tauN u) 137) 2), .inl x1], (s_I M 113 0 (0 : Int32)))) (nv_As hA) rfl ?_
      obtain ⟨n, hn⟩ : ∃ n : Nat, x1.toInt = (n : Int) := ⟨x1.toInt.toNat, by omega⟩
      obtain ⟨bu, hb8⟩ : ∃ n : Nat, (a_I M u 2).toInt = (n : Int) := ⟨(a_I M u 2).toInt.toNat, by omega⟩
      by_cases c4 : x1.toInt ≤ (a_I M u 2).toInt
      · skip
        refine nv_ifc hct true rfl (ccT2 rfl hb9 c4) ?_
        refine nv_cut hct nvU 200 49 17 (S' := (d + 2, [], 200, 49, [(0, .inr (.inr (some 113))), (1, .inl x1)], [.inl (binf 4 (1 : Int32) ((2 : Int32) * (0 : Int32)))], (s_I (s_I (s_I M 113 0 (0 : Int32)) 113 1 (0 : Int32)) 113 2 (-1 : Int32)))) (nv_As hA) rfl ?_
        exact nv_iret hct rfl rfl ⟨_, rfl, Or.inr ⟨rfl, Or.inr ⟨by omega, by rw [hn, hb8]; exact sc_ok (by omega) (by omega) (by rw [if_neg (by omega)]; rfl)⟩⟩⟩
      · skip
        refine nv_ifc hct false rfl (ccF2 rfl hb9 (by omega)) ?_
        refine nv_cut hct nvU 200 49 22 (S' := (d + 2, [], 200, 49, [(0, .inr (.inr (some 113))), (1, .inl x1)], [.inl (binf 4 (1 : Int32) ((2 : Int32) * (x1 - (a_I (s_I M 113 0 (0 : Int32)) (nv_s (tauN u) 137) 2))))], (s_I (s_I (s_I M 113 0 (0 : Int32)) 113 1 (0 : Int32)) 113 2 (-1 : Int32)))) (nv_As hA) rfl ?_
        have hsb : (x1 - a_I (s_I M 113 0 0) (nv_s (tauN u) 137) 2).toInt = ((if bu < n then n - bu else 0 : Nat) : Int) := by
          rw [if_pos (by omega), sub_p hn (hb9.trans hb8) (by omega) (by omega)]
        exact nv_iret hct rfl rfl ⟨_, rfl, Or.inr ⟨rfl, Or.inr ⟨by omega, by rw [hn, hb8]; exact sc_ok (by omega) (by omega) hsb⟩⟩⟩
  · skip
    subst ey1
    have cy1 : x1.toInt < 1 ∨ (9 : Int) < x1.toInt := cy1
    refine nv_cut hct nvU 200 49 18 (S' := (d + 2, [], 200, 49, [(0, .inr (.inr (some 113))), (1, .inl x1)], [.inl (-1 : Int32)], (s_I (s_I (s_I M 113 0 (0 : Int32)) 113 1 (2 : Int32)) 113 2 (-1 : Int32)))) (nv_As hA) rfl ?_
    exact nv_iret hct rfl rfl ⟨_, rfl, Or.inr ⟨rfl, Or.inl ⟨by omega, rfl⟩⟩⟩
set_option maxHeartbeats 4000000 in
theorem cf_rows0 {cd : Nat → Nat → Option aI} {z : Bool} (hz : ∀ m p i, cd0 z m p = some i → cd m p = some i) {b : Bool} {rg : Nat → Nat} {M : aM} (hL : LB b rg M) (x1 : Int32) (c0 : a_I M 0 8 = 0) {d : Nat} : wpS cd (d + 1, [], 113, 0, nv_l (tauC (cur b)) (la 0 [.inr (.inr (some 0)), .inl x1]), [], M) (fun r M' => ∃ y, r = some (.inl y) ∧ y = -1) := by
  show wpS cd (nv_S (tauC (cur b)) (d + 1, [], 113, 0, la 0 [.inr (.inr (some 0)), .inl x1], [], M)) _
  have hct := hc_of hz
  have hA := nvV_A hL
  refine nv_cut hct nvV 141 4 8 (S' := (d, [(113, 5, [(0, .inr (.inr (some 0))), (1, .inl x1)], [])], 141, 4, [(0, .inr (.inr (some 0))), (1, .inl x1)], [.inl (a_I M 0 8)], M)) hA rfl ?_
  refine nv_if hct false rfl (zcF5 rfl (by rw [c0]; rfl)) ?_
  refine nv_cut hct nvV 113 15 16 (S' := (d + 1, [], 113, 15, [(2, .inl (1 : Int32)), (0, .inr (.inr (some 0))), (1, .inl x1)], [.inl (-1 : Int32)], (s_I M 0 9 (1 : Int32)))) hA rfl ?_
  exact nv_iret hct rfl rfl ⟨_, rfl, rfl⟩
theorem xc_fault {cd : Nat → Nat → Option aI} {z : Bool} (hz : ∀ m p i, cd0 z m p = some i → cd m p = some i) {q : Nat} {M : aM} (hI : LZ q M) : wpS cd (39, [], 106, 0, la 0 [.inr (.inr (some 0))], [], M) (fun r M' => ∃ x, r = some (.inl x) ∧ LZ q M' ∧ x = a_I M' 0 10) := by
  have hct := hc_of hz
  obtain ⟨b, rg, hL, hJ, hr, hR, hW⟩ := hI
  refine wpS_mono (wpS_and (cf_fault hz hL (d := 39)) (oXfault hct hL (d := 39) (by omega))) (fun r M' h => ?_)
  obtain ⟨⟨y, y1, y2⟩, h⟩ := h
  have e := Fr_nil h.2.1
  subst e
  exact ⟨y, y1, ⟨b, rg, hL, hJ, hr, hR, hW⟩, y2⟩
theorem mc_fault {cd : Nat → Nat → Option aI} {z : Bool} (hz : ∀ m p i, cd0 z m p = some i → cd m p = some i) {q : Nat} {M : aM} {x : Int32} (hI : LZ q M ∧ x = a_I M 0 10) : wpS cd (39, [], 182, 0, la 0 [.inr (.inr (some 113))], [], M) (fun r M' => ∃ y, r = some (.inl y) ∧ x = y ∧ LZ q M') := by
  obtain ⟨hI, hx⟩ := hI
  have hR3 : a_I M 0 10 = a_I M 113 13 := by obtain ⟨_, _, _, _, _, hR, _⟩ := hI; exact hR.2.2
  obtain ⟨b, rg, hL⟩ : ∃ b rg, LB b rg M := by obtain ⟨b, rg, hL, _⟩ := hI; exact ⟨b, rg, hL⟩
  refine wpS_mono (wpS_and (rf_fault hz hL (d := 39)) (mw_fault hz hI)) (fun r M' h => ?_)
  obtain ⟨⟨y, y1, y2⟩, x', x1, hS⟩ := h
  exact ⟨y, y1, by rw [hx, hR3, y2], hS⟩
theorem xc_where {cd : Nat → Nat → Option aI} {z : Bool} (hz : ∀ m p i, cd0 z m p = some i → cd m p = some i) {q : Nat} {M : aM} (hI : LZ q M) : wpS cd (39, [], 107, 0, la 0 [.inr (.inr (some 0))], [], M) (fun r M' => ∃ x, r = some (.inl x) ∧ LZ q M' ∧ x = (if a_I M' 0 9 = 4 then a_I M' 0 11 else -1)) := by
  have hct := hc_of hz
  obtain ⟨b, rg, hL, hJ, hr, hR, hW⟩ := hI
  refine wpS_mono (wpS_and (cf_where hz hL (d := 39)) (oXwhere hct hL (d := 39) (by omega))) (fun r M' h => ?_)
  obtain ⟨⟨y, y1, y2⟩, h⟩ := h
  have e := Fr_nil h.2.1
  subst e
  exact ⟨y, y1, ⟨b, rg, hL, hJ, hr, hR, hW⟩, y2⟩
theorem mc_where {cd : Nat → Nat → Option aI} {z : Bool} (hz : ∀ m p i, cd0 z m p = some i → cd m p = some i) {q : Nat} {M : aM} {x : Int32} (hI : LZ q M ∧ x = (if a_I M 0 9 = 4 then a_I M 0 11 else -1)) : wpS cd (39, [], 183, 0, la 0 [.inr (.inr (some 113))], [], M) (fun r M' => ∃ y, r = some (.inl y) ∧ x = y ∧ LZ q M') := by
  obtain ⟨hI, hx⟩ := hI
  have hR3 : (if a_I M 0 9 = 4 then a_I M 0 11 else -1) = a_I M 113 2 := by obtain ⟨_, _, _, _, _, _, hW⟩ := hI; exact hW
  obtain ⟨b, rg, hL⟩ : ∃ b rg, LB b rg M := by obtain ⟨b, rg, hL, _⟩ := hI; exact ⟨b, rg, hL⟩
  refine wpS_mono (wpS_and (rf_where hz hL (d := 39)) (mw_where hz hI)) (fun r M' h => ?_)
  obtain ⟨⟨y, y1, y2⟩, x', x1, hS⟩ := h
  exact ⟨y, y1, by rw [hx, hR3, y2], hS⟩
theorem xc_rod {cd : Nat → Nat → Option aI} {z : Bool} (hz : ∀ m p i, cd0 z m p = some i → cd m p = some i) {q : Nat} {M : aM} (hI : LZ q M) (x1 : Int32) (h1 : 0 ≤ x1.toInt ∧ x1.toInt ≤ 1) : wpS cd (39, [], 108, 0, la 0 [.inr (.inr (some 0)), .inl x1], [], M) (fun r M' => ∃ x, r = some (.inl x) ∧ LY q M' ∧ x = (if a_I M' 0 8 = 0 then 0 else 1)) := by
  have hct := hc_of hz
  obtain ⟨b, rg, hL, hJ, hr, hR, hW⟩ := hI
  refine wpS_mono (wpS_and (cf_rod hz hL x1 h1 (d := 37)) (oXrod hct hL x1 h1 (d := 39) (by omega))) (fun r M' h => ?_)
  obtain ⟨⟨y, y1, y2⟩, h⟩ := h
  have e8 : a_I M' 0 8 = a_I M 0 8 := Fr_I h.2.1 (rg_at hL (a := 0) (by omega) (fun b => by cases b <;> rfl)) rfl
  exact ⟨y, y1, LY_x hL hJ hr hR h oXrod_p oXrod_j (by decide) (by decide), by rw [e8]; exact y2⟩
theorem mc_rod {cd : Nat → Nat → Option aI} {z : Bool} (hz : ∀ m p i, cd0 z m p = some i → cd m p = some i) {q : Nat} {M : aM} {x : Int32} (hI : LY q M ∧ x = (if a_I M 0 8 = 0 then 0 else 1)) (x1 : Int32) (h1 : 0 ≤ x1.toInt ∧ x1.toInt ≤ 1) : wpS cd (39, [], 190, 0, la 0 [.inr (.inr (some 113)), .inl x1], [], M) (fun r M' => ∃ y, r = some (.inl y) ∧ x = y ∧ LZ q M') := by
  have hct := hc_of hz
  obtain ⟨hI, hx⟩ := hI
  have hI9 := hI
  obtain ⟨b, rg, hL, hJ, hr, ⟨_, hR2, _⟩, hW⟩ := hI
  rcases hR2 with ⟨e8, hu⟩ | ⟨e8, u, hu, _⟩
  · refine wpS_mono (wpS_and (oMrod_0 hct hL hJ hu x1 h1 (d := 39) (by omega)) (mw_rod hz hI9 x1 h1)) (fun r M' h => ?_)
    obtain ⟨⟨_, _, a, ha, hp⟩, y, y1, hS⟩ := h
    subst y1
    have ha := List.mem_singleton.mp ha
    subst ha
    have hp : 0 ≤ y.toInt ∧ y.toInt ≤ 0 := hp.1
    refine ⟨y, rfl, ?_, hS⟩
    rw [hx, if_pos e8]
    exact Int32.toInt_inj.mp (by show (0 : Int) = _; omega)
  · refine wpS_mono (wpS_and (oMrod_1 hct hL hJ hu (JM_u hJ hu) x1 h1 (d := 39) (by omega)) (mw_rod hz hI9 x1 h1)) (fun r M' h => ?_)
    obtain ⟨⟨_, _, a, ha, hp⟩, y, y1, hS⟩ := h
    subst y1
    have ha := List.mem_singleton.mp ha
    subst ha
    have hp : 1 ≤ y.toInt ∧ y.toInt ≤ 1 := hp.1
    refine ⟨y, rfl, ?_, hS⟩
    rw [hx, if_neg (by rw [e8]; decide)]
    exact Int32.toInt_inj.mp (by show (1 : Int) = _; omega)
/-- the answer by the class's shop -/
def RwC (M : aM) (x y : Int32) : Prop := ∃ n bu, ((a_I M 0 8 = 0 ∧ a_P M 113 3 = none) ∨ (a_I M 0 8 = 1 ∧ ∃ u, a_P M 113 3 = some u ∧ (a_I M u 0).toInt = n ∧ (a_I M u 2).toInt = bu)) ∧ RwA (!decide (a_I M 0 8 = 0)) n bu x y
theorem cur_2 {b : Bool} {rg : Nat → Nat} {M : aM} (hL : LB b rg M) (hJ : JM rg M) (h : R2 b M) (x y : Int32) (hA : RwA (!decide (a_I M 0 8 = 0)) (a_I M (cur b) 0).toInt (a_I M (cur b) 2).toInt x y) : RwC M x y := by
  rcases h with h | ⟨h1, u, h2, h3, _, h5⟩
  · exact ⟨_, _, Or.inl h, hA⟩
  · exact ⟨_, _, Or.inr ⟨h1, u, h2, by rw [h3], by rw [h5]⟩, hA⟩
theorem xc_rows {cd : Nat → Nat → Option aI} {z : Bool} (hz : ∀ m p i, cd0 z m p = some i → cd m p = some i) {q : Nat} {M : aM} (hI : LZ q M) (x1 : Int32) : wpS cd (39, [], 113, 0, la 0 [.inr (.inr (some 0)), .inl x1], [], M) (fun r M' => ∃ x, r = some (.inl x) ∧ LY q M' ∧ RwC M' x1 x) := by
  have hct := hc_of hz
  obtain ⟨b, rg, hL, hJ, hr, hR, hW⟩ := hI
  rcases hR.2.1 with ⟨e8, hu⟩ | ⟨e8, u, hu, u0, u1, u2⟩
  · have hlw : RwA (!decide (a_I M 0 8 = 0)) 0 0 x1 (-1) := Or.inl ⟨by rw [decide_eq_true e8]; rfl, rfl⟩
    refine wpS_mono (wpS_and (cf_rows0 hz hL x1 e8 (d := 38)) (oXrows hct hL x1 (d := 39) (by omega))) (fun r M' h => ?_)
    obtain ⟨⟨y, y1, y2⟩, h⟩ := h
    have f8 : a_I M' 0 8 = a_I M 0 8 := Fr_I h.2.1 (rg_at hL (a := 0) (by omega) (fun b => by cases b <;> rfl)) rfl
    have f3 : a_P M' 113 3 = a_P M 113 3 := Fr_P h.2.1 (rg_at hL (a := 113) (by omega) (fun b => by cases b <;> rfl)) rfl
    refine ⟨y, y1, LY_x hL hJ hr hR h oXrows_p oXrows_j (by decide) (by decide), 0, 0, Or.inl ⟨f8.trans e8, f3.trans hu⟩, ?_⟩
    rw [f8, y2]; exact hlw
  · have hj := JM_u hJ hu
    have hbu : 0 ≤ (a_I M u 2).toInt ∧ (a_I M u 2).toInt ≤ 9 := by
      have q := (hL.1.2 u hj.1).2.2
      rw [hj.2.1] at q
      exact q 2 (by decide)
    refine wpS_mono (wpS_and (cf_rows hz hL x1 (by rw [u2]; exact hbu.1) (d := 38)) (oXrows hct hL x1 (d := 39) (by omega))) (fun r M' h => ?_)
    obtain ⟨⟨y, y1, y2⟩, h⟩ := h
    have f8 : a_I M' 0 8 = a_I M 0 8 := Fr_I h.2.1 (rg_at hL (a := 0) (by omega) (fun b => by cases b <;> rfl)) rfl
    have f3 : a_P M' 113 3 = a_P M 113 3 := Fr_P h.2.1 (rg_at hL (a := 113) (by omega) (fun b => by cases b <;> rfl)) rfl
    refine ⟨y, y1, LY_x hL hJ hr hR h oXrows_p oXrows_j (by decide) (by decide), _, _, Or.inr ⟨f8.trans e8, u, f3.trans hu, rfl, rfl⟩, ?_⟩
    rw [f8, Fr_I h.2.1 hj.2.1 rfl, Fr_I h.2.1 hj.2.1 rfl, ← u0, ← u2]
    exact y2
theorem mc_rows {cd : Nat → Nat → Option aI} {z : Bool} (hz : ∀ m p i, cd0 z m p = some i → cd m p = some i) {q : Nat} {M : aM} {x : Int32} (x1 : Int32) (hI : LY q M ∧ RwC M x1 x) : wpS cd (39, [], 200, 0, la 0 [.inr (.inr (some 113)), .inl x1], [], M) (fun r M' => ∃ y, r = some (.inl y) ∧ x = y ∧ LZ q M') := by
  obtain ⟨hI, n, bu, hs, hA⟩ := hI
  have hI9 := hI
  obtain ⟨b, rg, hL, hJ, _⟩ := hI
  rcases hs with ⟨e8, hu⟩ | ⟨e8, u, hu, u0, u2⟩
  · refine wpS_mono (wpS_and (rf_rows0 hz hL x1 (nvO_A (LB_nv (τ := id) hL) hu) (d := 38)) (mw_rows hz hI9 x1)) (fun r M' h => ?_)
    obtain ⟨⟨y, y1, y2⟩, x', _, hS⟩ := h
    refine ⟨y, y1, ?_, hS⟩
    rcases hA with ⟨_, a2⟩ | ⟨a1, _⟩
    · rw [a2, y2]
    · rw [decide_eq_true e8] at a1; cases a1
  · refine wpS_mono (wpS_and (rf_rows1 hz hL hJ x1 hu (d := 37)) (mw_rows hz hI9 x1)) (fun r M' h => ?_)
    obtain ⟨⟨y, y1, y2⟩, x', _, hS⟩ := h
    refine ⟨y, y1, ?_, hS⟩
    rw [decide_eq_false (show ¬ a_I M 0 8 = 0 by rw [e8]; decide)] at hA
    rw [u0, u2] at y2
    exact RwA_eq hA y2

/-! advance of the class: printed by wip/gen/clsp2.py -/
theorem i32_s2 {W x : Int32} {w c : Int} (hw : W.toInt = w) (hx : x.toInt = c) (w1 : 0 ≤ w) (w2 : w ≤ 99999) (c1 : -1 ≤ c) (c2 : c ≤ 255) : (W * (10 : Int32) + x - 48).toInt = 10 * w + c - 48 := by
  rw [Int32.mul_comm]
  exact i32_st hw hx w1 w2 c1 c2
def f37 (a k : Nat) : Bool := Nat.beq a 2 && (Nat.beq k 3 || Nat.beq k 7)
def pk9 (B : Nat → Int) (lim kk k : Nat) : Bool := decide (kd9 (gt9 B lim k) = kk)
theorem pk_1 {B : Nat → Int} {lim : Nat} : pk9 B lim 1 = fun k => isLt (gt9 B lim k) := funext fun k => by
  unfold pk9
  cases hb : isLt (gt9 B lim k) with
  | true => exact decide_eq_true (kd9_1.mpr hb)
  | false => exact decide_eq_false (fun q => by rw [kd9_1.mp q] at hb; cases hb)
theorem pk_2 {B : Nat → Int} {lim : Nat} : pk9 B lim 2 = fun k => isDg (gt9 B lim k) := funext fun k => by
  unfold pk9
  cases hb : isDg (gt9 B lim k) with
  | true => exact decide_eq_true (kd9_2.mpr hb)
  | false => exact decide_eq_false (fun q => by rw [kd9_2.mp q] at hb; cases hb)
theorem sub_p {x y : Int32} {a b : Nat} (hx : x.toInt = (a : Int)) (hy : y.toInt = (b : Int)) (h : b ≤ a) (h7 : a ≤ 100000) : (x - y).toInt = ((a - b : Nat) : Int) := by
  rw [sub_i]
  · rw [hx, hy]; omega
  · rw [hx, hy]; show (-2147483648 : Int) ≤ (a : Int) - b; omega
  · rw [hx, hy]; show (a : Int) - b ≤ (2147483647 : Int); omega
set_option maxHeartbeats 8000000 in
theorem c_run {cd : Nat → Nat → Option aI} {z : Bool} (hz : ∀ m p i, cd0 z m p = some i → cd m p = some i) {t0 : Nat} {B : Nat → Int} {lim : Nat} {d : Nat} {Q : aQ} {s kk : Nat} (hkk : kk = 1 ∨ kk = 2) (hs0 : kd9 (gt9 B lim s) = kk) : ∀ (f : Nat) {n : Nat} {M : aM}, 701 - (s + n) = f → s + n ≤ lim → EnC t0 B lim M → (a_I M 2 5).toInt = (s : Int) → (a_I M 2 3).toInt = ((s + n : Nat) : Int) → (a_I M 2 4).toInt = (kk : Int) → (kk = 2 → (a_I M 2 7).toInt = vfd (gt9 B lim) s (min n 3)) → (∀ j, j < n → kd9 (gt9 B lim (s + j)) = kk) → fwd (pk9 B lim kk) (s + n) = fwd (pk9 B lim kk) s → (∀ M1, eqE f37 M M1 → (a_I M1 2 3).toInt = (fwd (pk9 B lim kk) s : Int) → (kk = 2 → (a_I M1 2 7).toInt = vfd (gt9 B lim) s (min (fwd (pk9 B lim kk) s - s) 3)) → wpS cd (nv_S (tauC t0) (d + 1, [], 91, 188, [(1, .inl (1 : Int32)), (0, .inr (.inr (some 2)))], [], M1)) Q) → wpS cd (nv_S (tauC t0) (d + 1, [], 91, 87, [(1, .inl (1 : Int32)), (0, .inr (.inr (some 2)))], [], M)) Q := by
  have hct := hc_of hz
  intro f
  induction f with
  | zero => intro n M hn hq hE; have := hE.2.2.2.1; omega
  | succ f ih =>
    intro n M hn hq hE h5 h3 h4 h7 hall hfw h
    have hl := hE.2.2.2.1
    refine nv_cut hct nvC 91 95 7 (S' := (d + 1, [], 91, 95, [(1, .inl (1 : Int32)), (0, .inr (.inr (some 2)))], [.inl (a_I M 2 2), .inl (a_I M 2 3)], M)) hE.1 rfl ?_
    have body : s + n < lim → kd9 (gt9 B lim (s + n)) = kk → wpS cd (nv_S (tauC t0) (d + 1, [], 91, 131, [(1, .inl (1 : Int32)), (0, .inr (.inr (some 2)))], [], M)) Q := by
      intro hlm hk9
      have hall2 : ∀ j, j < n + 1 → kd9 (gt9 B lim (s + j)) = kk := fun j hj => by
        by_cases e : j < n
        · exact hall j e
        · have : j = n := by omega
          subst this; exact hk9
      have hfw2 : fwd (pk9 B lim kk) (s + (n + 1)) = fwd (pk9 B lim kk) s := by rw [← hfw]; exact (fwd_T (p := s + n) (by omega) (decide_eq_true hk9)).symm
      have h8 := add_p h3 (by omega) (by omega)
      refine nv_cut hct nvC 91 136 6 (S' := (d + 1, [], 91, 136, [(1, .inl (1 : Int32)), (0, .inr (.inr (some 2)))], [.inl (2 : Int32), .inl (a_I M 2 4)], M)) hE.1 rfl ?_
      by_cases k2 : kk = 2
      · skip
        refine nv_ifc hct false rfl (ccF5 h4 (show ((2 : Int32)).toInt = 2 from rfl) (by omega)) ?_
        refine nv_cut hct nvC 91 149 9 (S' := (d + 1, [], 91, 149, [(1, .inl (1 : Int32)), (0, .inr (.inr (some 2)))], [.inl (3 : Int32), .inl ((a_I M 2 3) - (a_I M 2 5))], M)) hE.1 rfl ?_
        have hd := sub_p h3 h5 (by omega) (by omega)
        rw [show s + n - s = n by omega] at hd
        have h7 := h7 k2
        have halld : ∀ j, j < n + 1 → isDg (gt9 B lim (s + j)) = true := fun j hj => kd9_2.mp (by rw [hall2 j hj, k2])
        by_cases c3 : n < 3
        · skip
          refine nv_ifc hct false rfl (ccF4 hd (show ((3 : Int32)).toInt = 3 from rfl) (by omega)) ?_
          refine nv_cut hct nvC 90 0 12 (S' := (d, [(91, 168, [(1, .inl (1 : Int32)), (0, .inr (.inr (some 2)))], [.inl ((a_I M 2 7) * (10 : Int32)), .inr (.inr (some 2))])], 90, 0, la 0 [.inr (.inr (some 2)), .inl (a_I M 2 3)], [], M)) hE.1 rfl ?_
          refine nv_calli (c_byteAt hz hE h3) (fun x M1 ⟨e1, hx⟩ => ?_)
          subst e1
          refine nv_cut hct nvC 91 87 14 (S' := (d + 1, [], 91, 87, [(1, .inl (1 : Int32)), (0, .inr (.inr (some 2)))], [], (s_I (s_I M1 2 7 ((((a_I M1 2 7) * (10 : Int32)) + x) - (48 : Int32))) 2 3 ((a_I M1 2 3) + (1 : Int32))))) hE.1 rfl ?_
          have hb8 := vfd_3 (g := gt9 B lim) (s := s) (k := n) (by omega) (fun j hj => halld j (by omega))
          have hlb := isDg_T (halld n (by omega))
          rw [show min n 3 = n by omega] at h7
          have hst := i32_s2 h7 hx hb8.1 (by omega) (by omega) (by omega)
          refine ih (n := n + 1) (by omega) (by omega) (Ec_x (f := f37) (fun _ => rfl) rfl (eqE_s (eqE_s eqE_rf rfl) rfl) hE) h5 (by rw [aI_at]; show (a_I M1 2 3 + 1).toInt = _; rw [h8]; omega) h4 (fun _ => by rw [show min (n + 1) 3 = n + 1 by omega]; exact hst) hall2 hfw2 (fun M2 f2 => h M2 (eqE_tr (eqE_s (eqE_s eqE_rf rfl) rfl) f2))
        · skip
          refine nv_ifc hct true rfl (ccT4 hd (show ((3 : Int32)).toInt = 3 from rfl) (by omega)) ?_
          refine nv_cut hct nvC 91 87 10 (S' := (d + 1, [], 91, 87, [(1, .inl (1 : Int32)), (0, .inr (.inr (some 2)))], [], (s_I M 2 3 ((a_I M 2 3) + (1 : Int32))))) hE.1 rfl ?_
          refine ih (n := n + 1) (by omega) (by omega) (Ec_x (f := f37) (fun _ => rfl) rfl (eqE_s eqE_rf rfl) hE) h5 (by rw [aI_at, h8]; omega) h4 (fun _ => by rw [show min (n + 1) 3 = min n 3 by omega]; exact h7) hall2 hfw2 (fun M2 f2 => h M2 (eqE_tr (eqE_s eqE_rf rfl) f2))
      · skip
        refine nv_ifc hct true rfl (ccT5 h4 (show ((2 : Int32)).toInt = 2 from rfl) (by omega)) ?_
        refine nv_cut hct nvC 91 87 10 (S' := (d + 1, [], 91, 87, [(1, .inl (1 : Int32)), (0, .inr (.inr (some 2)))], [], (s_I M 2 3 ((a_I M 2 3) + (1 : Int32))))) hE.1 rfl ?_
        refine ih (n := n + 1) (by omega) (by omega) (Ec_x (f := f37) (fun _ => rfl) rfl (eqE_s eqE_rf rfl) hE) h5 (by rw [aI_at, h8]; omega) h4 (fun e => absurd e k2) hall2 hfw2 (fun M2 f2 => h M2 (eqE_tr (eqE_s eqE_rf rfl) f2))
    by_cases hlm : s + n < lim
    · skip
      refine nv_ifc hct false rfl (ccF4 h3 hE.2.2.1 (by omega)) ?_
      refine nv_cut hct nvC 91 106 7 (S' := (d + 1, [], 91, 106, [(1, .inl (1 : Int32)), (0, .inr (.inr (some 2)))], [.inl (a_I M 2 5), .inl (a_I M 2 3)], M)) hE.1 rfl ?_
      by_cases hn0 : n = 0
      · skip
        refine nv_ifc hct true rfl (ccT1 h3 h5 (by omega)) ?_
        exact body hlm (by rw [hn0]; exact hs0)
      · skip
        refine nv_ifc hct false rfl (ccF1 h3 h5 (by omega)) ?_
        refine nv_cut hct nvC 90 0 9 (S' := (d, [(91, 121, [(1, .inl (1 : Int32)), (0, .inr (.inr (some 2)))], [])], 90, 0, la 0 [.inr (.inr (some 2)), .inl (a_I M 2 3)], [], M)) hE.1 rfl ?_
        refine nv_calli (c_byteAt hz hE h3) (fun x M1 ⟨e1, hx⟩ => ?_)
        subst e1
        refine nv_cut hct nvC 92 0 4 (S' := (d, [(91, 124, [(1, .inl (1 : Int32)), (0, .inr (.inr (some 2)))], [])], 92, 0, la 0 [.inl x], [], M1)) hE.1 rfl ?_
        refine nv_calli (c_kindOf hz hE hx) (fun y M2 ⟨e2, hy⟩ => ?_)
        subst e2
        refine nv_cut hct nvC 91 128 5 (S' := (d + 1, [], 91, 128, [(1, .inl (1 : Int32)), (0, .inr (.inr (some 2)))], [.inl (a_I M2 2 4), .inl y], M2)) hE.1 rfl ?_
        by_cases hk9 : kd9 (gt9 B lim (s + n)) = kk
        · skip
          refine nv_ifc hct false rfl (ccF5 hy h4 (by omega)) ?_
          exact body hlm hk9
        · skip
          refine nv_ifc hct true rfl (ccT5 hy h4 (by omega)) ?_
          have e0 : fwd (pk9 B lim kk) s = s + n := by rw [← hfw]; exact fwd_F (decide_eq_false hk9)
          exact h M2 eqE_rf (by rw [h3, e0]) (fun e => by rw [h7 e, e0, show s + n - s = n by omega])
    · skip
      refine nv_ifc hct true rfl (ccT4 h3 hE.2.2.1 (by omega)) ?_
      have hk9 : ¬ kd9 (gt9 B lim (s + n)) = kk := by
        unfold gt9; rw [if_neg hlm]; rcases hkk with e | e <;> (rw [e]; decide)
      have e0 : fwd (pk9 B lim kk) s = s + n := by rw [← hfw]; exact fwd_F (decide_eq_false hk9)
      exact h M eqE_rf (by rw [h3, e0]) (fun e => by rw [h7 e, e0, show s + n - s = n by omega])
set_option maxHeartbeats 8000000 in
theorem c_advance {cd : Nat → Nat → Option aI} {z : Bool} (hz : ∀ m p i, cd0 z m p = some i → cd m p = some i) {t0 : Nat} {B : Nat → Int} {lim : Nat} {M : aM} (hE : EnC t0 B lim M) {q : Nat} (hq : q ≤ lim) (hat : (a_I M 2 3).toInt = (q : Int)) {d : Nat} : wpS cd (d + 1, [], 91, 0, nv_l (tauC t0) (la 0 [.inr (.inr (some 2))]), [], M) (fun r M' => r = none ∧ eqE fA M M' ∧ TkC B lim M' q) := by
  show wpS cd (nv_S (tauC t0) (d + 1, [], 91, 0, la 0 [.inr (.inr (some 2))], [], M)) _
  have hct := hc_of hz
  have hl := hE.2.2.2.1
  refine c_skip hz _ rfl hq hE hat (fun M1 g1 h1 => ?_)
  have E1 := Ec_x (f := f3) (fun _ => rfl) rfl g1 hE
  have hsl := skp_le (B := B) hq
  have g1 : eqE fA M M1 := eqE_up g1 (fun a k h => by
    cases hb : f3 a k with
    | false => rfl
    | true =>
      obtain ⟨b1, b2⟩ := (Bool.and_eq_true _ _).mp hb
      rw [nbT b1, nbT b2] at h; cases h)
  refine nv_cut hct nvC 90 0 12 (S' := (d, [(91, 54, [(0, .inr (.inr (some 2)))], [.inr (.inr (some 2))])], 90, 0, la 0 [.inr (.inr (some 2)), .inl (a_I M1 2 3)], [], (s_I M1 2 5 (a_I M1 2 3)))) E1.1 rfl ?_
  have E2 : EnC t0 B lim (s_I M1 2 5 (a_I M1 2 3)) := Ec_x (f := fA) (fun _ => rfl) rfl (eqE_s eqE_rf rfl) E1
  refine nv_calli (c_byteAt hz E2 (p := skp B lim q) h1) (fun x M2 ⟨e2, hx⟩ => ?_)
  subst e2
  refine nv_cut hct nvC 92 0 4 (S' := (d, [(91, 57, [(0, .inr (.inr (some 2)))], [.inr (.inr (some 2))])], 92, 0, la 0 [.inl x], [], (s_I M1 2 5 (a_I M1 2 3)))) E2.1 rfl ?_
  refine nv_calli (c_kindOf hz E2 hx) (fun y M3 ⟨e3, hy⟩ => ?_)
  subst e3
  refine nv_cut hct nvC 91 70 10 (S' := (d + 1, [], 91, 70, [(0, .inr (.inr (some 2)))], [.inl (1 : Int32), .inl y], (s_I (s_I (s_I M1 2 5 (a_I M1 2 3)) 2 4 y) 2 7 (0 : Int32)))) E2.1 rfl ?_
  have E4 : EnC t0 B lim (s_I (s_I (s_I M1 2 5 (a_I M1 2 3)) 2 4 y) 2 7 (0 : Int32)) := Ec_x (f := fA) (fun _ => rfl) rfl (eqE_s (eqE_s eqE_rf rfl) rfl) E2
  have q4 : eqE fA M (s_I (s_I (s_I M1 2 5 (a_I M1 2 3)) 2 4 y) 2 7 (0 : Int32)) := eqE_s (eqE_s (eqE_s g1 rfl) rfl) rfl
  have v5 : (a_I (s_I (s_I (s_I M1 2 5 (a_I M1 2 3)) 2 4 y) 2 7 (0 : Int32)) 2 5).toInt = (skp B lim q : Int) := h1
  have v3 : (a_I (s_I (s_I (s_I M1 2 5 (a_I M1 2 3)) 2 4 y) 2 7 (0 : Int32)) 2 3).toInt = (skp B lim q : Int) := h1
  have v4 : (a_I (s_I (s_I (s_I M1 2 5 (a_I M1 2 3)) 2 4 y) 2 7 (0 : Int32)) 2 4).toInt = (kd9 (gt9 B lim (skp B lim q)) : Int) := hy
  have v7 : a_I (s_I (s_I (s_I M1 2 5 (a_I M1 2 3)) 2 4 y) 2 7 (0 : Int32)) 2 7 = 0 := rfl
  show wpS cd (nv_S (tauC t0) (d + 1, [], 91, 70, [(0, .inr (.inr (some 2)))], [.inl (1 : Int32), .inl (a_I (s_I (s_I (s_I M1 2 5 (a_I M1 2 3)) 2 4 y) 2 7 (0 : Int32)) 2 4)], (s_I (s_I (s_I M1 2 5 (a_I M1 2 3)) 2 4 y) 2 7 (0 : Int32)))) _
  generalize (s_I (s_I (s_I M1 2 5 (a_I M1 2 3)) 2 4 y) 2 7 (0 : Int32)) = M4 at E4 q4 v5 v3 v4 v7 ⊢
  have fin : ∀ kk, (kk = 1 ∨ kk = 2) → kd9 (gt9 B lim (skp B lim q)) = kk → wpS cd (nv_S (tauC t0) (d + 1, [], 91, 87, [(1, .inl (1 : Int32)), (0, .inr (.inr (some 2)))], [], M4)) (fun r M' => r = none ∧ eqE fA M M' ∧ TkC B lim M' q) := by
    intro kk hkk hk9
    rw [hk9] at v4
    refine c_run hz hkk hk9 _ (n := 0) rfl (by omega) E4 v5 v3 v4 (fun _ => by rw [v7]; rfl) (fun j hj => absurd hj (Nat.not_lt_zero j)) rfl (fun M5 g5 w3 w7 => ?_)
    have E5 := Ec_x (f := f37) (fun _ => rfl) rfl g5 E4
    have q5 : eqE fA M M5 := eqE_tr q4 (eqE_up g5 (fun a k h => by
      cases hb : f37 a k with
      | false => rfl
      | true =>
        obtain ⟨b1, b2⟩ := (Bool.and_eq_true _ _).mp hb
        rw [nbT b1] at h
        rcases (Bool.or_eq_true _ _).mp b2 with b3 | b3 <;> (rw [nbT b3] at h; cases h)))
    have u5 : (a_I M5 2 5).toInt = (skp B lim q : Int) := by rw [g5.2.2 2 5 rfl]; exact v5
    have u4 : (a_I M5 2 4).toInt = (kk : Int) := by rw [g5.2.2 2 4 rfl]; exact v4
    have hge : skp B lim q ≤ fwd (pk9 B lim kk) (skp B lim q) := fwd_ge
    have hle : fwd (pk9 B lim kk) (skp B lim q) ≤ lim := fwd_le hsl (by unfold pk9; rw [gt9_lim]; rcases hkk with e | e <;> (rw [e]; rfl))
    have hln := sub_p w3 u5 hge (by omega)
    refine nv_cut hct nvC 91 214 17 (S' := (d + 1, [], 91, 214, [(1, .inl (1 : Int32)), (0, .inr (.inr (some 2)))], [.inl (1 : Int32), .inl (a_I M5 2 4), .inl ((a_I M5 2 3) - (a_I M5 2 5))], (s_I M5 2 6 ((a_I M5 2 3) - (a_I M5 2 5))))) E5.1 rfl ?_
    rcases hkk with e | e
    · skip
      subst e
      refine nv_ifc hct false rfl (ccF5 u4 (show ((1 : Int32)).toInt = 1 from rfl) (by omega)) ?_
      refine nv_cut hct nvC 91 223 5 (S' := (d + 1, [], 91, 223, [(1, .inl (1 : Int32)), (0, .inr (.inr (some 2)))], [.inl (8 : Int32), .inl ((a_I M5 2 3) - (a_I M5 2 5))], (s_I M5 2 6 ((a_I M5 2 3) - (a_I M5 2 5))))) (nv_As E5.1) rfl ?_
      have hb := kd9_1.mp hk9
      rw [pk_1] at hln w3
      have hnx : nxt B lim q = ewd B lim (skp B lim q) := by unfold nxt; rw [hb]; rfl
      have hkn : knd B lim q = if ewd B lim (skp B lim q) - skp B lim q ≤ 8 then 1 else 4 := by unfold knd; rw [hb]; rfl
      have hln : (a_I M5 2 3 - a_I M5 2 5).toInt = ((ewd B lim (skp B lim q) - skp B lim q : Nat) : Int) := hln
      by_cases h8 : ewd B lim (skp B lim q) - skp B lim q ≤ 8
      · skip
        refine nv_ifc hct true rfl (ccT2 hln (show ((8 : Int32)).toInt = 8 from rfl) (by omega)) ?_
        exact nv_vret hct rfl ⟨rfl, eqE_s q5 rfl, u5, by rw [hkn, if_pos h8]; exact u4, by rw [hnx]; exact w3, by rw [hnx]; exact hln, fun e => by rw [hkn, if_pos h8] at e; cases e⟩
      · skip
        refine nv_ifc hct false rfl (ccF2 hln (show ((8 : Int32)).toInt = 8 from rfl) (by omega)) ?_
        refine nv_cut hct nvC 91 231 6 (S' := (d + 1, [], 91, 231, [(1, .inl (1 : Int32)), (0, .inr (.inr (some 2)))], [], (s_I (s_I M5 2 6 ((a_I M5 2 3) - (a_I M5 2 5))) 2 4 (4 : Int32)))) (nv_As E5.1) rfl ?_
        exact nv_vret hct rfl ⟨rfl, eqE_s (eqE_s q5 rfl) rfl, u5, by rw [hkn, if_neg h8]; rfl, by rw [hnx]; exact w3, by rw [hnx]; exact hln, fun e => by rw [hkn, if_neg h8] at e; cases e⟩
    · skip
      subst e
      refine nv_ifc hct true rfl (ccT5 u4 (show ((1 : Int32)).toInt = 1 from rfl) (by omega)) ?_
      refine nv_cut hct nvC 91 223 4 (S' := (d + 1, [], 91, 223, [(1, .inl (1 : Int32)), (0, .inr (.inr (some 2)))], [.inl (3 : Int32), .inl ((a_I M5 2 3) - (a_I M5 2 5))], (s_I M5 2 6 ((a_I M5 2 3) - (a_I M5 2 5))))) (nv_As E5.1) rfl ?_
      have hd := kd9_2.mp hk9
      have hb : isLt (gt9 B lim (skp B lim q)) = false := by
        cases hb : isLt (gt9 B lim (skp B lim q)) with
        | false => rfl
        | true => have := isLt_T hb; have := isDg_T hd; omega
      rw [pk_2] at hln w3 w7
      have hnx : nxt B lim q = edg B lim (skp B lim q) := by unfold nxt; rw [hb, hd]; rfl
      have hkn : knd B lim q = if edg B lim (skp B lim q) - skp B lim q ≤ 3 then 2 else 4 := by unfold knd; rw [hb, hd]; rfl
      have hln : (a_I M5 2 3 - a_I M5 2 5).toInt = ((edg B lim (skp B lim q) - skp B lim q : Nat) : Int) := hln
      by_cases h8 : edg B lim (skp B lim q) - skp B lim q ≤ 3
      · skip
        refine nv_ifc hct true rfl (ccT2 hln (show ((3 : Int32)).toInt = 3 from rfl) (by omega)) ?_
        refine nv_vret hct rfl ⟨rfl, eqE_s q5 rfl, u5, by rw [hkn, if_pos h8]; exact u4, by rw [hnx]; exact w3, by rw [hnx]; exact hln, fun _ => ?_⟩
        have w7 := w7 rfl
        unfold val; rw [hnx]
        show (a_I M5 2 7).toInt = _
        rw [w7]; show vfd _ _ (min (edg B lim (skp B lim q) - skp B lim q) 3) = _; rw [show min (edg B lim (skp B lim q) - skp B lim q) 3 = edg B lim (skp B lim q) - skp B lim q by omega]
      · skip
        refine nv_ifc hct false rfl (ccF2 hln (show ((3 : Int32)).toInt = 3 from rfl) (by omega)) ?_
        refine nv_cut hct nvC 91 231 6 (S' := (d + 1, [], 91, 231, [(1, .inl (1 : Int32)), (0, .inr (.inr (some 2)))], [], (s_I (s_I M5 2 6 ((a_I M5 2 3) - (a_I M5 2 5))) 2 4 (4 : Int32)))) (nv_As E5.1) rfl ?_
        exact nv_vret hct rfl ⟨rfl, eqE_s (eqE_s q5 rfl) rfl, u5, by rw [hkn, if_neg h8]; rfl, by rw [hnx]; exact w3, by rw [hnx]; exact hln, fun e => by rw [hkn, if_neg h8] at e; cases e⟩
  have fin0 : kd9 (gt9 B lim (skp B lim q)) ≠ 1 → kd9 (gt9 B lim (skp B lim q)) ≠ 2 → wpS cd (nv_S (tauC t0) (d + 1, [], 91, 87, [(1, .inl (0 : Int32)), (0, .inr (.inr (some 2)))], [], M4)) (fun r M' => r = none ∧ eqE fA M M' ∧ TkC B lim M' q) := by
    intro k1 k2
    have hb : isLt (gt9 B lim (skp B lim q)) = false := by
      cases hb : isLt (gt9 B lim (skp B lim q)) with
      | false => rfl
      | true => exact absurd (kd9_1.mpr hb) k1
    have hd : isDg (gt9 B lim (skp B lim q)) = false := by
      cases hd : isDg (gt9 B lim (skp B lim q)) with
      | false => rfl
      | true => exact absurd (kd9_2.mpr hd) k2
    have hkn : (knd B lim q = if gt9 B lim (skp B lim q) = -1 then 0 else if gt9 B lim (skp B lim q) = 59 then 3 else 4) ∧ nxt B lim q = if gt9 B lim (skp B lim q) = -1 then skp B lim q else skp B lim q + 1 := by
      constructor
      · unfold knd; rw [hb, hd]; rfl
      · unfold nxt; rw [hb, hd]; rfl
    have hkd : kd9 (gt9 B lim (skp B lim q)) = if gt9 B lim (skp B lim q) < 0 then 0 else if gt9 B lim (skp B lim q) = 59 then 3 else 4 := by unfold kd9; rw [hb, hd]; rfl
    refine nv_cut hct nvC 91 95 7 (S' := (d + 1, [], 91, 95, [(1, .inl (0 : Int32)), (0, .inr (.inr (some 2)))], [.inl (a_I M4 2 2), .inl (a_I M4 2 3)], M4)) E4.1 rfl ?_
    by_cases hlm : skp B lim q < lim
    · skip
      have hg : gt9 B lim (skp B lim q) = B (skp B lim q) := if_pos hlm
      have hBn : 0 ≤ B (skp B lim q) := by rw [← E4.2.1 (skp B lim q) (by omega)]; exact (and_i (y := 255) (by decide)).1
      rw [hg] at hkn hkd v4
      rw [if_neg (show ¬ B (skp B lim q) = -1 by omega)] at hkn
      rw [if_neg (show ¬ B (skp B lim q) = -1 by omega)] at hkn
      rw [if_neg (show ¬ B (skp B lim q) < 0 by omega)] at hkd
      have hk34 : (a_I M4 2 4).toInt = (knd B lim q : Int) := by rw [v4, hkd, hkn.1]
      have h8 := add_p v3 (by omega) (by omega)
      refine nv_ifc hct false rfl (ccF4 v3 E4.2.2.1 (by omega)) ?_
      refine nv_cut hct nvC 91 106 7 (S' := (d + 1, [], 91, 106, [(1, .inl (0 : Int32)), (0, .inr (.inr (some 2)))], [.inl (a_I M4 2 5), .inl (a_I M4 2 3)], M4)) E4.1 rfl ?_
      refine nv_ifc hct true rfl (ccT1 v3 v5 (by omega)) ?_
      refine nv_cut hct nvC 91 136 6 (S' := (d + 1, [], 91, 136, [(1, .inl (0 : Int32)), (0, .inr (.inr (some 2)))], [.inl (2 : Int32), .inl (a_I M4 2 4)], M4)) E4.1 rfl ?_
      refine nv_ifc hct true rfl (ccT5 hk34 (show ((2 : Int32)).toInt = 2 from rfl) (by rw [hkn.1]; split <;> decide)) ?_
      refine nv_cut hct nvC 91 95 14 (S' := (d + 1, [], 91, 95, [(1, .inl (0 : Int32)), (0, .inr (.inr (some 2)))], [.inl (a_I M4 2 2), .inl ((a_I M4 2 3) + (1 : Int32))], (s_I M4 2 3 ((a_I M4 2 3) + (1 : Int32))))) E4.1 rfl ?_
      have w3 : (a_I M4 2 3 + 1).toInt = ((skp B lim q + 1 : Nat) : Int) := by rw [h8]; omega
      have hln := sub_p w3 v5 (by omega) (by omega)
      rw [show skp B lim q + 1 - skp B lim q = 1 by omega] at hln
      have fin9 : wpS cd (nv_S (tauC t0) (d + 1, [], 91, 188, [(1, .inl (0 : Int32)), (0, .inr (.inr (some 2)))], [], (s_I M4 2 3 ((a_I M4 2 3) + (1 : Int32))))) (fun r M' => r = none ∧ eqE fA M M' ∧ TkC B lim M' q) := by
        refine nv_cut hct nvC 91 231 12 (S' := (d + 1, [], 91, 231, [(1, .inl (0 : Int32)), (0, .inr (.inr (some 2)))], [], (s_I (s_I M4 2 3 ((a_I M4 2 3) + (1 : Int32))) 2 6 (((a_I M4 2 3) + (1 : Int32)) - (a_I M4 2 5))))) (nv_As E4.1) rfl ?_
        exact nv_vret hct rfl ⟨rfl, eqE_s (eqE_s q4 rfl) rfl, v5, hk34, by rw [hkn.2]; exact w3, by rw [hkn.2, show skp B lim q + 1 - skp B lim q = 1 by omega]; exact hln, fun e => by rw [hkn.1] at e; split at e <;> cases e⟩
      by_cases hl2 : skp B lim q + 1 < lim
      · skip
        refine nv_ifc hct false rfl (ccF4 w3 E4.2.2.1 (by omega)) ?_
        refine nv_cut hct nvC 91 106 7 (S' := (d + 1, [], 91, 106, [(1, .inl (0 : Int32)), (0, .inr (.inr (some 2)))], [.inl (a_I M4 2 5), .inl ((a_I M4 2 3) + (1 : Int32))], (s_I M4 2 3 ((a_I M4 2 3) + (1 : Int32))))) (nv_As E4.1) rfl ?_
        refine nv_ifc hct false rfl (ccF1 w3 v5 (by omega)) ?_
        refine nv_cut hct nvC 91 188 5 (S' := (d + 1, [], 91, 188, [(1, .inl (0 : Int32)), (0, .inr (.inr (some 2)))], [], (s_I M4 2 3 ((a_I M4 2 3) + (1 : Int32))))) (nv_As E4.1) rfl ?_
        exact fin9
      · skip
        refine nv_ifc hct true rfl (ccT4 w3 E4.2.2.1 (by omega)) ?_
        exact fin9
    · skip
      have hg : gt9 B lim (skp B lim q) = -1 := if_neg hlm
      rw [hg] at hkn v4
      have hln := sub_p v3 v5 (Nat.le_refl _) (by omega)
      rw [Nat.sub_self] at hln
      refine nv_ifc hct true rfl (ccT4 v3 E4.2.2.1 (by omega)) ?_
      refine nv_cut hct nvC 91 231 12 (S' := (d + 1, [], 91, 231, [(1, .inl (0 : Int32)), (0, .inr (.inr (some 2)))], [], (s_I M4 2 6 ((a_I M4 2 3) - (a_I M4 2 5))))) E4.1 rfl ?_
      exact nv_vret hct rfl ⟨rfl, eqE_s q4 rfl, v5, by rw [hkn.1]; exact v4, by rw [hkn.2]; exact v3, by rw [hkn.2, if_pos rfl, Nat.sub_self]; exact hln, fun e => by rw [hkn.1] at e; cases e⟩
  by_cases k1 : kd9 (gt9 B lim (skp B lim q)) = 1
  · skip
    refine nv_ifc hct true rfl (ccT1 v4 (show ((1 : Int32)).toInt = 1 from rfl) (by rw [k1]; rfl)) ?_
    refine nv_cut hct nvC 91 87 6 (S' := (d + 1, [], 91, 87, [(1, .inl (1 : Int32)), (0, .inr (.inr (some 2)))], [], M4)) E4.1 rfl ?_
    exact fin 1 (Or.inl rfl) k1
  · skip
    refine nv_ifc hct false rfl (ccF1 v4 (show ((1 : Int32)).toInt = 1 from rfl) (by omega)) ?_
    refine nv_cut hct nvC 91 78 6 (S' := (d + 1, [], 91, 78, [(0, .inr (.inr (some 2)))], [.inl (2 : Int32), .inl (a_I M4 2 4)], M4)) E4.1 rfl ?_
    by_cases k2 : kd9 (gt9 B lim (skp B lim q)) = 2
    · skip
      refine nv_ifc hct false rfl (ccF5 v4 (show ((2 : Int32)).toInt = 2 from rfl) (by rw [k2]; rfl)) ?_
      refine nv_cut hct nvC 91 87 6 (S' := (d + 1, [], 91, 87, [(1, .inl (1 : Int32)), (0, .inr (.inr (some 2)))], [], M4)) E4.1 rfl ?_
      exact fin 2 (Or.inr rfl) k2
    · skip
      refine nv_ifc hct true rfl (ccT5 v4 (show ((2 : Int32)).toInt = 2 from rfl) (by omega)) ?_
      refine nv_cut hct nvC 91 87 5 (S' := (d + 1, [], 91, 87, [(1, .inl (0 : Int32)), (0, .inr (.inr (some 2)))], [], M4)) E4.1 rfl ?_
      exact fin0 k1 k2

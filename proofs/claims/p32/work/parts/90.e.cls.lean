/-! Names of the class: printed by wip/gen/clsp5.py -/
def lik (B : Nat → Int) (lim p s n : Nat) : Bool := Nat.beq n (nxt B lim p - skp B lim p) && (List.range (nxt B lim p - skp B lim p)).all (fun i => decide (gt9 B lim (skp B lim p + i) = gt9 B lim (s + i)))
theorem add_q {x y : Int32} {a b : Nat} (hx : x.toInt = (a : Int)) (hy : y.toInt = (b : Int)) (ha : a ≤ 100000) (hb : b ≤ 100000) : (x + y).toInt = ((a + b : Nat) : Int) := by
  rw [add_i]
  · rw [hx, hy]; omega
  · rw [hx, hy]; show (-2147483648 : Int) ≤ (a : Int) + b; omega
  · rw [hx, hy]; show (a : Int) + b ≤ (2147483647 : Int); omega
set_option maxHeartbeats 4000000 in
theorem c_likeL {cd : Nat → Nat → Option aI} {z : Bool} (hz : ∀ m p i, cd0 z m p = some i → cd m p = some i) {t0 : Nat} {B : Nat → Int} {lim : Nat} {M : aM} (hE : EnC t0 B lim M) {p : Nat} (hp : p ≤ lim) (hT : TkC B lim M p) {x y : Int32} {s n : Nat} (hx : x.toInt = (s : Int)) (hy : y.toInt = (n : Int)) (hs : s ≤ 700) (hn : n = nxt B lim p - skp B lim p) {d : Nat} : ∀ (f : Nat) {j : Nat} {i : Int32}, n - j = f → j ≤ n → i.toInt = (j : Int) → (∀ q, q < j → gt9 B lim (skp B lim p + q) = gt9 B lim (s + q)) → wpS cd (nv_S (tauC t0) (d + 1, [], 94, 12, [(3, .inl i), (0, .inr (.inr (some 2))), (1, .inl x), (2, .inl y)], [], M)) (fun r M' => ∃ v, r = some (.inl v) ∧ M' = M ∧ v = (bif lik B lim p s n then 1 else 0)) := by
  have hct := hc_of hz
  have hl := hE.2.2.2.1
  have hnl := nxt_le (B := B) hp
  have hsl : (a_I M 2 6).toInt = (n : Int) := by rw [hT.2.2.2.1, hn]
  intro f
  induction f with
  | zero =>
    intro j i h1 h2 hi hall
    refine nv_cut hct nvC 94 17 6 (S' := (d + 1, [], 94, 17, [(3, .inl i), (0, .inr (.inr (some 2))), (1, .inl x), (2, .inl y)], [.inl (a_I M 2 6), .inl i], M)) hE.1 rfl ?_
    refine nv_ifc hct true rfl (ccT4 hi hsl (by omega)) ?_
    refine nv_cut hct nvC 94 49 4 (S' := (d + 1, [], 94, 49, [(3, .inl i), (0, .inr (.inr (some 2))), (1, .inl x), (2, .inl y)], [.inl (1 : Int32)], M)) hE.1 rfl ?_
    refine nv_iret hct rfl rfl ⟨_, rfl, rfl, ?_⟩
    have : lik B lim p s n = true := by
      unfold lik; rw [hn, Nat.beq_refl, Bool.true_and]
      exact List.all_eq_true.mpr (fun q hq => decide_eq_true (hall q (by have := List.mem_range.mp hq; omega)))
    rw [this]; rfl
  | succ f ih =>
    intro j i h1 h2 hi hall
    refine nv_cut hct nvC 94 17 6 (S' := (d + 1, [], 94, 17, [(3, .inl i), (0, .inr (.inr (some 2))), (1, .inl x), (2, .inl y)], [.inl (a_I M 2 6), .inl i], M)) hE.1 rfl ?_
    refine nv_ifc hct false rfl (ccF4 hi hsl (by omega)) ?_
    have hsk := skp_le (B := B) hp
    refine nv_cut hct nvC 90 0 9 (S' := (d, [(94, 30, [(3, .inl i), (0, .inr (.inr (some 2))), (1, .inl x), (2, .inl y)], [])], 90, 0, la 0 [.inr (.inr (some 2)), .inl ((a_I M 2 5) + i)], [], M)) hE.1 rfl ?_
    refine nv_calli (c_byteAt hz hE (add_q hT.1 hi (by omega) (by omega))) (fun u M1 ⟨e1, hu⟩ => ?_)
    subst e1
    refine nv_cut hct nvC 90 0 8 (S' := (d, [(94, 37, [(3, .inl i), (0, .inr (.inr (some 2))), (1, .inl x), (2, .inl y)], [.inl u])], 90, 0, la 0 [.inr (.inr (some 2)), .inl (x + i)], [], M1)) hE.1 rfl ?_
    refine nv_calli (c_byteAt hz hE (add_q hx hi (by omega) (by omega))) (fun v M2 ⟨e2, hv⟩ => ?_)
    subst e2
    refine nv_cut hct nvC 94 37 3 (S' := (d + 1, [], 94, 37, [(3, .inl i), (0, .inr (.inr (some 2))), (1, .inl x), (2, .inl y)], [.inl v, .inl u], M2)) hE.1 rfl ?_
    by_cases hc : gt9 B lim (skp B lim p + j) = gt9 B lim (s + j)
    · skip
      refine nv_ifc hct true rfl (ccT1 hu hv hc) ?_
      refine nv_cut hct nvC 94 12 5 (S' := (d + 1, [], 94, 12, [(3, .inl (i + 1)), (0, .inr (.inr (some 2))), (1, .inl x), (2, .inl y)], [], M2)) hE.1 rfl ?_
      refine ih (j := j + 1) (by omega) (by omega) (by rw [add_p hi (by omega) (by omega)]; omega) (fun q hq => ?_)
      by_cases e : q < j
      · exact hall q e
      · have : q = j := by omega
        subst this; exact hc
    · skip
      refine nv_ifc hct false rfl (ccF1 hu hv hc) ?_
      refine nv_cut hct nvC 94 41 4 (S' := (d + 1, [], 94, 41, [(3, .inl i), (0, .inr (.inr (some 2))), (1, .inl x), (2, .inl y)], [.inl (0 : Int32)], M2)) hE.1 rfl ?_
      refine nv_iret hct rfl rfl ⟨_, rfl, rfl, ?_⟩
      have : lik B lim p s n = false := by
        cases hb : lik B lim p s n with
        | false => rfl
        | true =>
          obtain ⟨_, b2⟩ := (Bool.and_eq_true _ _).mp hb
          exact absurd (of_decide_eq_true (List.all_eq_true.mp b2 j (List.mem_range.mpr (by omega)))) hc
      rw [this]; rfl
set_option maxHeartbeats 4000000 in
theorem c_isLike {cd : Nat → Nat → Option aI} {z : Bool} (hz : ∀ m p i, cd0 z m p = some i → cd m p = some i) {t0 : Nat} {B : Nat → Int} {lim : Nat} {M : aM} (hE : EnC t0 B lim M) {p : Nat} (hp : p ≤ lim) (hT : TkC B lim M p) {x y : Int32} {s n : Nat} (hx : x.toInt = (s : Int)) (hy : y.toInt = (n : Int)) (hs : s ≤ 700) {d : Nat} : wpS cd (d + 1, [], 94, 0, nv_l (tauC t0) (la 0 [.inr (.inr (some 2)), .inl x, .inl y]), [], M) (fun r M' => ∃ v, r = some (.inl v) ∧ M' = M ∧ v = (bif lik B lim p s n then 1 else 0)) := by
  show wpS cd (nv_S (tauC t0) (d + 1, [], 94, 0, la 0 [.inr (.inr (some 2)), .inl x, .inl y], [], M)) _
  have hct := hc_of hz
  refine nv_cut hct nvC 94 5 6 (S' := (d + 1, [], 94, 5, [(0, .inr (.inr (some 2))), (1, .inl x), (2, .inl y)], [.inl (a_I M 2 6), .inl y], M)) hE.1 rfl ?_
  by_cases hn : n = nxt B lim p - skp B lim p
  · skip
    refine nv_ifc hct true rfl (ccT1 hy hT.2.2.2.1 (by omega)) ?_
    refine nv_cut hct nvC 94 12 5 (S' := (d + 1, [], 94, 12, [(3, .inl (0 : Int32)), (0, .inr (.inr (some 2))), (1, .inl x), (2, .inl y)], [], M)) hE.1 rfl ?_
    exact c_likeL hz hE hp hT hx hy hs hn _ rfl (Nat.zero_le _) rfl (fun q hq => absurd hq (Nat.not_lt_zero q))
  · skip
    refine nv_ifc hct false rfl (ccF1 hy hT.2.2.2.1 (by omega)) ?_
    refine nv_cut hct nvC 94 9 4 (S' := (d + 1, [], 94, 9, [(0, .inr (.inr (some 2))), (1, .inl x), (2, .inl y)], [.inl (0 : Int32)], M)) hE.1 rfl ?_
    exact nv_iret hct rfl rfl ⟨_, rfl, rfl, by unfold lik; rw [nbF hn]; rfl⟩
/-- the class's names -/
def CN (B : Nat → Int) (lim : Nat) (M : aM) (L : lsT) : Prop := ((a_I M 1 5).toInt = ((l_nm L).length : Int) ∧ (l_nm L).length ≤ 8) ∧ ∀ i, i < (l_nm L).length → ∃ s n : Nat, ((a_I M 16 i).toInt = (s : Int) ∧ (a_I M 17 i).toInt = (n : Int) ∧ s ≤ 700) ∧ (∀ j, j < n → isLt (gt9 B lim (s + j)) = true) ∧ hsh (gt9 B lim) s n = ((l_nm L).getD i (0, 0)).1 ∧ (a_I M 18 i).toInt = ((l_nm L).getD i (0, 0)).2
theorem lik_h {B : Nat → Int} {lim p s n : Nat} (hk : knd B lim p = 1) (hl : ∀ j, j < n → isLt (gt9 B lim (s + j)) = true) : lik B lim p s n = decide (hsh (gt9 B lim) s n = m_hs B lim (.inl p)) := by
  obtain ⟨h1, h2, h3⟩ := knd_1 hk
  show _ = decide (hsh (gt9 B lim) s n = hsh (gt9 B lim) (skp B lim p) (nxt B lim p - skp B lim p))
  by_cases e : hsh (gt9 B lim) s n = hsh (gt9 B lim) (skp B lim p) (nxt B lim p - skp B lim p)
  · rw [decide_eq_true e]
    obtain ⟨q1, q2⟩ := hsh_inj hl h3 e
    unfold lik
    rw [q1, Nat.beq_refl, Bool.true_and]
    exact List.all_eq_true.mpr (fun i hi => decide_eq_true (q2 i (by rw [q1]; exact List.mem_range.mp hi)).symm)
  · rw [decide_eq_false e]
    cases hb : lik B lim p s n with
    | false => rfl
    | true =>
      exfalso
      obtain ⟨b1, b2⟩ := (Bool.and_eq_true _ _).mp hb
      apply e
      rw [nbT b1]
      exact hsh_cong (fun j hj => (of_decide_eq_true (List.all_eq_true.mp b2 j (List.mem_range.mpr hj))).symm)
def lkP (B : Nat → Int) (lim p : Nat) (M : aM) (j : Nat) : Bool := lik B lim p (a_I M 16 j).toInt.toNat (a_I M 17 j).toInt.toNat
set_option maxHeartbeats 4000000 in
theorem c_findL {cd : Nat → Nat → Option aI} {z : Bool} (hz : ∀ m p i, cd0 z m p = some i → cd m p = some i) {t0 : Nat} {B : Nat → Int} {lim : Nat} {M : aM} (hE : EnC t0 B lim M) {p : Nat} (hp : p ≤ lim) (hT : TkC B lim M p) {L : lsT} (hN : CN B lim M L) {d : Nat} : ∀ (f : Nat) {j : Nat} {i : Int32}, (l_nm L).length - j = f → j ≤ (l_nm L).length → i.toInt = (j : Int) → wpS cd (nv_S (tauC t0) (d + 2, [], 72, 2, [(1, .inl i), (0, .inr (.inr (some 1)))], [], M)) (fun r M' => ∃ x, r = some (.inl x) ∧ M' = M ∧ x.toInt = fnx (lkP B lim p M) f j) := by
  have hct := hc_of hz
  have hn5 := hN.1.1
  have hn8 := hN.1.2
  intro f
  induction f with
  | zero =>
    intro j i h1 h2 hi
    refine nv_cut hct nvC 72 7 6 (S' := (d + 2, [], 72, 7, [(1, .inl i), (0, .inr (.inr (some 1)))], [.inl (a_I M 1 5), .inl i], M)) hE.1 rfl ?_
    refine nv_ifc hct true rfl (ccT4 hi hn5 (by omega)) ?_
    refine nv_cut hct nvC 72 47 4 (S' := (d + 2, [], 72, 47, [(1, .inl i), (0, .inr (.inr (some 1)))], [.inl (-1 : Int32)], M)) hE.1 rfl ?_
    exact nv_iret hct rfl rfl ⟨_, rfl, rfl, rfl⟩
  | succ f ih =>
    intro j i h1 h2 hi
    refine nv_cut hct nvC 72 7 6 (S' := (d + 2, [], 72, 7, [(1, .inl i), (0, .inr (.inr (some 1)))], [.inl (a_I M 1 5), .inl i], M)) hE.1 rfl ?_
    refine nv_ifc hct false rfl (ccF4 hi hn5 (by omega)) ?_
    refine nv_cut hct nvC 72 13 5 (S' := (d + 2, [], 72, 13, [(1, .inl i), (0, .inr (.inr (some 1)))], [.inl (8 : Int32), .inl i], M)) hE.1 rfl ?_
    refine nv_ifc hct false rfl (ccF4 hi (show ((8 : Int32)).toInt = 8 from rfl) (by omega)) ?_
    refine nv_cut hct nvC 72 25 8 (S' := (d + 2, [], 72, 25, [(1, .inl i), (0, .inr (.inr (some 1)))], [.inl i, .inr (.inr (some 16)), .inr (.inr (some 2))], M)) hE.1 rfl ?_
    refine nv_ald hct hE.1 rfl (show nvC.1 16 = 15 + 1 from rfl) (show nvC.2.1 16 = 8 + 1 from rfl) (inb_p hi (by omega)) ?_
    refine nv_cut hct nvC 72 31 6 (S' := (d + 2, [], 72, 31, [(1, .inl i), (0, .inr (.inr (some 1)))], [.inl i, .inr (.inr (some 17)), .inl (a_I M 16 i.toNatClampNeg), .inr (.inr (some 2))], M)) hE.1 rfl ?_
    refine nv_ald hct hE.1 rfl (show nvC.1 17 = 15 + 1 from rfl) (show nvC.2.1 17 = 8 + 1 from rfl) (inb_p hi (by omega)) ?_
    rw [tnc hi]
    obtain ⟨sN, nN, ⟨g1, g2, g3⟩, _⟩ := hN.2 j (by omega)
    refine nv_cut hct nvC 94 0 4 (S' := (d + 1, [(72, 35, [(1, .inl i), (0, .inr (.inr (some 1)))], [])], 94, 0, la 0 [.inr (.inr (some 2)), .inl (a_I M 16 j), .inl (a_I M 17 j)], [], M)) hE.1 rfl ?_
    refine nv_calli (c_isLike hz hE hp hT g1 g2 g3) (fun v M1 ⟨e1, hv⟩ => ?_)
    subst e1
    refine nv_cut hct nvC 72 35 3 (S' := (d + 2, [], 72, 35, [(1, .inl i), (0, .inr (.inr (some 1)))], [.inl v], M1)) hE.1 rfl ?_
    have hP : lkP B lim p M1 j = lik B lim p sN nN := by unfold lkP; rw [g1, g2, Int.toNat_natCast, Int.toNat_natCast]
    cases hc : lik B lim p sN nN with
    | true =>
      refine nv_if hct false rfl (zcF1 (show v.toInt = 1 by rw [hv, hc]; rfl) (by decide)) ?_
      refine nv_cut hct nvC 72 39 4 (S' := (d + 2, [], 72, 39, [(1, .inl i), (0, .inr (.inr (some 1)))], [.inl i], M1)) hE.1 rfl ?_
      refine nv_iret hct rfl rfl ⟨_, rfl, rfl, ?_⟩
      rw [hi]; show _ = (bif lkP B lim p M1 j then (j : Int) else _); rw [hP, hc]; rfl
    | false =>
      refine nv_if hct true rfl (zcT1 (show v.toInt = 0 by rw [hv, hc]; rfl) rfl) ?_
      refine nv_cut hct nvC 72 2 5 (S' := (d + 2, [], 72, 2, [(1, .inl (i + 1)), (0, .inr (.inr (some 1)))], [], M1)) hE.1 rfl ?_
      refine wpS_mono (ih (j := j + 1) (by omega) (by omega) (by rw [add_p hi (by omega) (by omega)]; omega)) (fun r M2 h => ?_)
      obtain ⟨x, x1, x2, x3⟩ := h
      exact ⟨x, x1, x2, by rw [x3]; show _ = (bif lkP B lim p M1 j then (j : Int) else _); rw [hP, hc]; rfl⟩
set_option maxHeartbeats 4000000 in
theorem c_find {cd : Nat → Nat → Option aI} {z : Bool} (hz : ∀ m p i, cd0 z m p = some i → cd m p = some i) {t0 : Nat} {B : Nat → Int} {lim : Nat} {M : aM} (hE : EnC t0 B lim M) {p : Nat} (hp : p ≤ lim) (hT : TkC B lim M p) {L : lsT} (hN : CN B lim M L) {d : Nat} : wpS cd (d + 2, [], 72, 0, nv_l (tauC t0) (la 0 [.inr (.inr (some 1))]), [], M) (fun r M' => ∃ x, r = some (.inl x) ∧ M' = M ∧ (x.toInt = -1 ∨ ∃ k : Nat, x.toInt = (k : Int) ∧ k < (l_nm L).length) ∧ (knd B lim p = 1 → x.toInt = l_fd L (m_hs B lim (.inl p)))) := by
  show wpS cd (nv_S (tauC t0) (d + 2, [], 72, 0, la 0 [.inr (.inr (some 1))], [], M)) _
  have hct := hc_of hz
  refine nv_cut hct nvC 72 2 5 (S' := (d + 2, [], 72, 2, [(1, .inl (0 : Int32)), (0, .inr (.inr (some 1)))], [], M)) hE.1 rfl ?_
  refine wpS_mono (c_findL hz hE hp hT hN _ (j := 0) rfl (Nat.zero_le _) rfl) (fun r M1 h => ?_)
  obtain ⟨x, x1, x2, x3⟩ := h
  rw [Nat.sub_zero] at x3
  refine ⟨x, x1, x2, ?_, fun hk => ?_⟩
  · rcases fnx_bd (P := lkP B lim p M) (f := (l_nm L).length) (j := 0) with h | ⟨k, h1, _, h3, _⟩
    · exact Or.inl (x3.trans h)
    · exact Or.inr ⟨k, x3.trans h1, by omega⟩
  · rw [x3]
    unfold l_fd
    exact fnx_cong (fun k h1 h2 => by
      obtain ⟨sN, nN, ⟨g1, g2, g3⟩, g4, g5, _⟩ := hN.2 k (by omega)
      have : lkP B lim p M k = lik B lim p sN nN := by unfold lkP; rw [g1, g2, Int.toNat_natCast, Int.toNat_natCast]
      rw [this, lik_h hk g4, g5])

/-! Words, names, wholes of the class: printed by wip/gen/clsp3.py -/
/-- how the class's reading stands -/
def StC (B : Nat → Int) (lim : Nat) (M : aM) (m : pmd) : Prop := ∃ p, (p ≤ lim ∧ TkC B lim M p) ∧ match m with
  | .inl q => q = p ∧ a_I M 1 13 = 0
  | .inr f => (a_I M 1 13).toInt = (f.1 : Int) ∧ (a_I M 1 14).toInt = (f.2 : Int) ∧ 1 ≤ f.1
theorem t_lenN {cd : Nat → Nat → Option aI} {z : Bool} (hz : ∀ m p i, cd0 z m p = some i → cd m p = some i) {τ : Nat → Nat} {k : Nat} (hk : k < 52) {d : Nat} {M : aM} {Q : aQ} {mid pc : Nat} {fs : List aFr} {lo : aL} {st : List aV} (hi : cd0 z mid pc = some (j_callt 244 0 1)) (hs : csum st ≤ 8) (h : wpS cd (nv_S τ (d + 2, fs, mid, pc + 3, lo, .inl (Int32.ofNat (txc k).length) :: st, M)) Q) : wpS cd (nv_S τ (d + 2, fs, mid, pc, lo, tV k :: st, M)) Q := by
  show wpS cd (d + 2, nv_f τ fs, mid, pc, nv_l τ lo, nv_v τ (tV k) :: nv_t τ st, M) Q
  rw [nv_tV]
  refine wp_call (hz _ _ _ hi) (callt0 hk (by rw [nv_cs]; exact hs)) ?_
  refine wp_mono (t_len hz hk) (fun r M' q => ?_)
  obtain ⟨e1, e2⟩ := q
  subst e1
  subst e2
  exact h
theorem t_chrN {cd : Nat → Nat → Option aI} {z : Bool} (hz : ∀ m p i, cd0 z m p = some i → cd m p = some i) {τ : Nat → Nat} {k : Nat} (hk : k < 52) {i : Int32} {j : Nat} (hi9 : i.toInt = (j : Int)) (hj : j < (txc k).length) {d : Nat} {M : aM} {Q : aQ} {mid pc : Nat} {fs : List aFr} {lo : aL} {st : List aV} (hi : cd0 z mid pc = some (j_callt 245 1 2)) (hs : csum st ≤ 8) (h : wpS cd (nv_S τ (d + 4, fs, mid, pc + 3, lo, .inl (Int32.ofNat ((txc k).getD j 0)) :: st, M)) Q) : wpS cd (nv_S τ (d + 4, fs, mid, pc, lo, .inl i :: tV k :: st, M)) Q := by
  show wpS cd (d + 4, nv_f τ fs, mid, pc, nv_l τ lo, .inl i :: nv_v τ (tV k) :: nv_t τ st, M) Q
  rw [nv_tV]
  refine wp_call (hz _ _ _ hi) (callt1 hk (by rw [nv_cs]; exact hs)) ?_
  refine wp_mono (t_chr hz hk hi9 hj) (fun r M' q => ?_)
  obtain ⟨e1, e2⟩ := q
  subst e1
  subst e2
  exact h
theorem txl_n {k : Nat} (hk : k < 52) : (Int32.ofNat (txc k).length).toInt = ((txc k).length : Int) := by
  have := (txc_bd ⟨k, hk⟩).1
  simp only at this
  exact Int32.toInt_ofNat_of_lt (by show (txc k).length < 2147483648; omega)
theorem txg_n {k j : Nat} (hk : k < 52) (hj : j < (txc k).length) : (Int32.ofNat ((txc k).getD j 0)).toInt = ((txc k).getD j 0 : Int) := by
  have := (txc_bd ⟨k, hk⟩).2 ((txc k).getD j 0) (by
    rw [List.getD_eq_getElem?_getD, List.getElem?_eq_getElem hj]
    exact List.getElem_mem hj)
  exact Int32.toInt_ofNat_of_lt (by show (txc k).getD j 0 < 2147483648; omega)
set_option maxHeartbeats 4000000 in
theorem c_isWordL {cd : Nat → Nat → Option aI} {z : Bool} (hz : ∀ m p i, cd0 z m p = some i → cd m p = some i) {t0 : Nat} {B : Nat → Int} {lim : Nat} {M : aM} (hE : EnC t0 B lim M) {p : Nat} (hT : TkC B lim M p) {k : Nat} (hk : k < 52) (hln : nxt B lim p - skp B lim p = (txc k).length) (hk1 : knd B lim p = 1) {d : Nat} : ∀ (n : Nat) {j : Nat} {i : Int32}, (txc k).length - j = n → j ≤ (txc k).length → i.toInt = (j : Int) → (∀ q, q < j → gt9 B lim (skp B lim p + q) = ((txc k).getD q 0 : Int)) → wpS cd (nv_S (tauC t0) (d + 4, [], 93, 23, [(2, .inl i), (0, .inr (.inr (some 2))), (1, .inr (.inr (some (aSB + k))))], [], M)) (fun r M' => ∃ x, r = some (.inl x) ∧ M' = M ∧ x = (bif isW B lim (txc k) p then 1 else 0)) := by
  have hct := hc_of hz
  have h8 := (knd_1 hk1).2.1
  have hl := hE.2.2.2.1
  have hsl : (a_I M 2 6).toInt = ((txc k).length : Int) := by rw [hT.2.2.2.1, hln]
  intro n
  induction n with
  | zero =>
    intro j i h1 h2 hi hall
    refine nv_cut hct nvC 93 28 6 (S' := (d + 4, [], 93, 28, [(2, .inl i), (0, .inr (.inr (some 2))), (1, .inr (.inr (some (aSB + k))))], [.inl (a_I M 2 6), .inl i], M)) hE.1 rfl ?_
    refine nv_ifc hct true rfl (ccT4 hi hsl (by omega)) ?_
    refine nv_cut hct nvC 93 58 4 (S' := (d + 4, [], 93, 58, [(2, .inl i), (0, .inr (.inr (some 2))), (1, .inr (.inr (some (aSB + k))))], [.inl (1 : Int32)], M)) hE.1 rfl ?_
    refine nv_iret hct rfl rfl ⟨_, rfl, rfl, ?_⟩
    have : isW B lim (txc k) p = true := by
      unfold isW; rw [hk1, hln, Nat.beq_refl, Nat.beq_refl, Bool.true_and, Bool.true_and]
      exact List.all_eq_true.mpr (fun q hq => decide_eq_true (hall q (by have := List.mem_range.mp hq; omega)))
    rw [this]; rfl
  | succ n ih =>
    intro j i h1 h2 hi hall
    refine nv_cut hct nvC 93 28 6 (S' := (d + 4, [], 93, 28, [(2, .inl i), (0, .inr (.inr (some 2))), (1, .inr (.inr (some (aSB + k))))], [.inl (a_I M 2 6), .inl i], M)) hE.1 rfl ?_
    refine nv_ifc hct false rfl (ccF4 hi hsl (by omega)) ?_
    have hsi : (a_I M 2 5 + i).toInt = ((skp B lim p + j : Nat) : Int) := by
      have h5 := hT.1
      have hns := nxt_s (B := B) (lim := lim) (p := p)
      have hn7 : skp B lim p ≤ 700 := by
        have := gt9_in (B := B) (lim := lim) (k := skp B lim p) (fun e => by
          have := isLt_T ((knd_1 hk1).2.2 0 (by rw [hln]; omega)); rw [Nat.add_zero, e] at this; omega)
        omega
      have h5b := (txc_bd ⟨k, hk⟩).1
      simp only at h5b
      rw [add_i]
      · rw [h5, hi]; omega
      · rw [h5, hi]; show (-2147483648 : Int) ≤ _; omega
      · rw [h5, hi]; show _ ≤ (2147483647 : Int); omega
    refine nv_cut hct nvC 90 0 9 (S' := (d + 3, [(93, 41, [(2, .inl i), (0, .inr (.inr (some 2))), (1, .inr (.inr (some (aSB + k))))], [])], 90, 0, la 0 [.inr (.inr (some 2)), .inl ((a_I M 2 5) + i)], [], M)) hE.1 rfl ?_
    refine nv_calli (c_byteAt hz hE hsi) (fun x M1 ⟨e1, hx⟩ => ?_)
    subst e1
    refine nv_cut hct nvC 93 43 5 (S' := (d + 4, [], 93, 43, [(2, .inl i), (0, .inr (.inr (some 2))), (1, .inr (.inr (some (aSB + k))))], [.inl i, .inr (.inr (some (aSB + k))), .inl x], M1)) hE.1 rfl ?_
    refine t_chrN hz hk hi (by omega) rfl (show (1 : Nat) ≤ 8 by decide) ?_
    have hg := txg_n hk (show j < (txc k).length by omega)
    by_cases hc : gt9 B lim (skp B lim p + j) = ((txc k).getD j 0 : Int)
    · skip
      refine nv_ifc hct true rfl (ccT1 hx hg hc) ?_
      refine nv_cut hct nvC 93 23 5 (S' := (d + 4, [], 93, 23, [(2, .inl (i + 1)), (0, .inr (.inr (some 2))), (1, .inr (.inr (some (aSB + k))))], [], M1)) hE.1 rfl ?_
      refine ih (j := j + 1) (by omega) (by omega) (by rw [add_p hi (by omega) (by have := (txc_bd ⟨k, hk⟩).1; simp only at this; omega)]; omega) (fun q hq => ?_)
      by_cases e : q < j
      · exact hall q e
      · have : q = j := by omega
        subst this; exact hc
    · skip
      refine nv_ifc hct false rfl (ccF1 hx hg hc) ?_
      refine nv_cut hct nvC 93 50 4 (S' := (d + 4, [], 93, 50, [(2, .inl i), (0, .inr (.inr (some 2))), (1, .inr (.inr (some (aSB + k))))], [.inl (0 : Int32)], M1)) hE.1 rfl ?_
      refine nv_iret hct rfl rfl ⟨_, rfl, rfl, ?_⟩
      have : isW B lim (txc k) p = false := by
        cases hb : isW B lim (txc k) p with
        | false => rfl
        | true =>
          obtain ⟨_, b2⟩ := (Bool.and_eq_true _ _).mp hb
          obtain ⟨_, b4⟩ := (Bool.and_eq_true _ _).mp b2
          exact absurd (of_decide_eq_true (List.all_eq_true.mp b4 j (List.mem_range.mpr (by omega)))) hc
      rw [this]; rfl
set_option maxHeartbeats 4000000 in
theorem c_isWord {cd : Nat → Nat → Option aI} {z : Bool} (hz : ∀ m p i, cd0 z m p = some i → cd m p = some i) {t0 : Nat} {B : Nat → Int} {lim : Nat} {M : aM} (hE : EnC t0 B lim M) {p : Nat} (hT : TkC B lim M p) {k : Nat} (hk : k < 52) {d : Nat} : wpS cd (d + 4, [], 93, 0, nv_l (tauC t0) (la 0 [.inr (.inr (some 2)), .inr (.inr (some (aSB + k)))]), [], M) (fun r M' => ∃ x, r = some (.inl x) ∧ M' = M ∧ x = (bif isW B lim (txc k) p then 1 else 0)) := by
  show wpS cd (nv_S (tauC t0) (d + 4, [], 93, 0, la 0 [.inr (.inr (some 2)), .inr (.inr (some (aSB + k)))], [], M)) _
  have hct := hc_of hz
  refine nv_cut hct nvC 93 5 6 (S' := (d + 4, [], 93, 5, [(0, .inr (.inr (some 2))), (1, .inr (.inr (some (aSB + k))))], [.inl (1 : Int32), .inl (a_I M 2 4)], M)) hE.1 rfl ?_
  by_cases hk1 : knd B lim p = 1
  · skip
    refine nv_ifc hct false rfl (ccF5 hT.2.1 (show ((1 : Int32)).toInt = 1 from rfl) (by omega)) ?_
    refine nv_cut hct nvC 93 9 4 (S' := (d + 4, [], 93, 9, [(0, .inr (.inr (some 2))), (1, .inr (.inr (some (aSB + k))))], [.inr (.inr (some (aSB + k)))], M)) hE.1 rfl ?_
    refine t_lenN hz hk rfl (show (0 : Nat) ≤ 8 by decide) ?_
    refine nv_cut hct nvC 93 16 5 (S' := (d + 4, [], 93, 16, [(0, .inr (.inr (some 2))), (1, .inr (.inr (some (aSB + k))))], [.inl (a_I M 2 6), .inl (Int32.ofNat (txc k).length)], M)) hE.1 rfl ?_
    by_cases hln : nxt B lim p - skp B lim p = (txc k).length
    · skip
      refine nv_ifc hct true rfl (ccT1 (txl_n hk) hT.2.2.2.1 (by omega)) ?_
      refine nv_cut hct nvC 93 23 5 (S' := (d + 4, [], 93, 23, [(2, .inl (0 : Int32)), (0, .inr (.inr (some 2))), (1, .inr (.inr (some (aSB + k))))], [], M)) hE.1 rfl ?_
      exact c_isWordL hz hE hT hk hln hk1 _ rfl (Nat.zero_le _) rfl (fun q hq => absurd hq (Nat.not_lt_zero q))
    · skip
      refine nv_ifc hct false rfl (ccF1 (txl_n hk) hT.2.2.2.1 (by omega)) ?_
      refine nv_cut hct nvC 93 20 4 (S' := (d + 4, [], 93, 20, [(0, .inr (.inr (some 2))), (1, .inr (.inr (some (aSB + k))))], [.inl (0 : Int32)], M)) hE.1 rfl ?_
      exact nv_iret hct rfl rfl ⟨_, rfl, rfl, by unfold isW; rw [nbF hln, Bool.false_and, Bool.and_false]; rfl⟩
  · skip
    refine nv_ifc hct true rfl (ccT5 hT.2.1 (show ((1 : Int32)).toInt = 1 from rfl) (by omega)) ?_
    refine nv_cut hct nvC 93 20 4 (S' := (d + 4, [], 93, 20, [(0, .inr (.inr (some 2))), (1, .inr (.inr (some (aSB + k))))], [.inl (0 : Int32)], M)) hE.1 rfl ?_
    exact nv_iret hct rfl rfl ⟨_, rfl, rfl, by rw [isW_n hk1]; rfl⟩
set_option maxHeartbeats 4000000 in
theorem c_blame {cd : Nat → Nat → Option aI} {z : Bool} (hz : ∀ m p i, cd0 z m p = some i → cd m p = some i) {t0 : Nat} {B : Nat → Int} {lim : Nat} {M : aM} (hE : EnC t0 B lim M) {m : pmd} (hS : StC B lim M m) {k : Int32} {kn : Nat} (hk : k.toInt = (kn : Int)) (hk1 : 1 ≤ kn) {d : Nat} : wpS cd (d, [], 54, 0, nv_l (tauC t0) (la 0 [.inr (.inr (some 1)), .inl k]), [], M) (fun r M' => r = none ∧ eqE fC M M' ∧ StC B lim M' (m_bad B lim kn m)) := by
  show wpS cd (nv_S (tauC t0) (d, [], 54, 0, la 0 [.inr (.inr (some 1)), .inl k], [], M)) _
  have hct := hc_of hz
  obtain ⟨p, ⟨hp, hT⟩, hm⟩ := hS
  refine nv_cut hct nvC 54 4 5 (S' := (d, [], 54, 4, [(0, .inr (.inr (some 1))), (1, .inl k)], [.inl (a_I M 1 13)], M)) hE.1 rfl ?_
  rcases m with q | f
  · skip
    obtain ⟨rfl, hm⟩ := hm
    refine nv_if hct false rfl (zcF5 rfl (by rw [hm]; rfl)) ?_
    refine nv_cut hct nvC 54 23 11 (S' := (d, [], 54, 23, [(0, .inr (.inr (some 1))), (1, .inl k)], [], (s_I (s_I M 1 13 k) 1 14 (a_I M 2 5)))) hE.1 rfl ?_
    exact nv_vret hct rfl ⟨rfl, eqE_s (eqE_s eqE_rf rfl) rfl, q, ⟨hp, hT⟩, hk, hT.1, hk1⟩
  · skip
    refine nv_if hct true rfl (zcT5 hm.1 (by have := hm.2.2; omega)) ?_
    refine nv_cut hct nvC 54 23 3 (S' := (d, [], 54, 23, [(0, .inr (.inr (some 1))), (1, .inl k)], [], M)) hE.1 rfl ?_
    exact nv_vret hct rfl ⟨rfl, eqE_rf, p, ⟨hp, hT⟩, hm⟩
theorem Ec_C {t0 : Nat} {B : Nat → Int} {lim : Nat} {M M1 : aM} (h : eqE fC M M1) (hE : EnC t0 B lim M) : EnC t0 B lim M1 := Ec_x (fun _ => rfl) rfl h hE
theorem c_adv {cd : Nat → Nat → Option aI} {z : Bool} (hz : ∀ m p i, cd0 z m p = some i → cd m p = some i) {t0 : Nat} {B : Nat → Int} {lim : Nat} {M : aM} (hE : EnC t0 B lim M) {m : pmd} (hS : StC B lim M m) {d : Nat} : wpS cd (d + 1, [], 91, 0, nv_l (tauC t0) (la 0 [.inr (.inr (some 2))]), [], M) (fun r M' => r = none ∧ eqE fC M M' ∧ StC B lim M' (m_adv B lim m)) := by
  obtain ⟨p, ⟨hp, hT⟩, hm⟩ := hS
  refine wpS_mono (c_advance hz hE (nxt_le hp) hT.2.2.1) (fun r M' h => ?_)
  obtain ⟨h1, h2, h3⟩ := h
  refine ⟨h1, fA_C h2, nxt B lim p, ⟨nxt_le hp, h3⟩, ?_⟩
  have h4 := h2.2.2 1 13 rfl
  have h5 := h2.2.2 1 14 rfl
  rcases m with q | f
  · exact ⟨by rw [hm.1], by rw [h4]; exact hm.2⟩
  · show (a_I M' 1 13).toInt = _ ∧ (a_I M' 1 14).toInt = _ ∧ _
    rw [h4, h5]
    exact hm

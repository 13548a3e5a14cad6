/-! Named lines of the reference: printed by wip/gen/refp5.py -/
def nam0 (B : Nat → Int) (lim p : Nat) (full : Bool) : pmd := m_adv B lim (m_if B lim 5 full (.inl p))
def nam1 (B : Nat → Int) (lim p : Nat) (full : Bool) : pmd := m_if B lim 1 (!m_name B lim (nam0 B lim p full)) (nam0 B lim p full)
def nam2 (B : Nat → Int) (lim : Nat) (L : lsT) (p : Nat) (full : Bool) : pmd := m_if B lim 3 (!decide (l_fd L (m_hs B lim (nam0 B lim p full)) = -1)) (nam1 B lim p full)
def nam3 (B : Nat → Int) (lim : Nat) (L : lsT) (p : Nat) (full : Bool) : pmd := m_adv B lim (nam2 B lim L p full)
def namL (B : Nat → Int) (lim : Nat) (L : lsT) (p : Nat) (full : Bool) (s : Int) : lsT := (L.1, L.2.1, L.2.2.1, L.2.2.2.1, l_nm L ++ [(m_hs B lim (nam0 B lim p full), s)])
theorem name_1 {B : Nat → Int} {lim : Nat} {m : pmd} {q : Nat} (h : m_if B lim 1 (!m_name B lim m) m = .inl q) : m = .inl q ∧ knd B lim q = 1 := by
  obtain ⟨h1, h2⟩ := if_inl h
  subst h1
  refine ⟨rfl, ?_⟩
  have h3 : m_name B lim (.inl q) = true := by
    cases hb : m_name B lim (.inl q) with
    | true => rfl
    | false => rw [hb] at h2; cases h2
  exact nbT ((Bool.and_eq_true _ _).mp h3).1
theorem word_h {B : Nat → Int} {lim : Nat} {M : aM} {p : Nat} (hS : StR B lim M (.inl p)) (hk : knd B lim p = 1) : (a_J M 113 15).toInt = m_hs B lim (.inl p) := by
  obtain ⟨_, ⟨_, h⟩, _⟩ := hS
  rcases h with ⟨k, h⟩ | ⟨k, h, _, h3⟩ | ⟨k, h, _⟩ | ⟨k, h, h2, _⟩ | ⟨k, h | ⟨h, h2⟩⟩
  · omega
  · exact h3
  all_goals omega
theorem LsA_o {n0 : Nat} {M : aM} {L : lsT} {j k : Nat} {v : Int32} (h : LsA n0 M L) : LsA n0 (s_I M (n0 + (j + 1)) k v) L := by
  have e : ∀ k', a_I (s_I M (n0 + (j + 1)) k v) n0 k' = a_I M n0 k' := fun k' => aI_nk (fun q => by omega)
  unfold LsA
  rw [e, e, e, e, e, e, e, e, e, e]
  exact h
/-- an array that no line asks for -/
theorem Rd_arr {n0 : Nat} {B : Nat → Int} {lim : Nat} {M0 M : aM} {m : pmd} {L : lsT} {j k : Nat} {v : Int32} (hj : [0, 1, 2, 3, 4, 5, 6, 10, 11].any (fun i => Nat.beq j i) = true) (R : RdR n0 B lim M0 M m L) : RdR n0 B lim M0 (s_I M (n0 + (j + 1)) k v) m L := by
  have hn := En_n R.1
  have hj2 : ∀ i, [7, 8, 9, 13].any (fun x => Nat.beq i x) = true → i ≠ j := fun i hi e => by
    subst e
    obtain ⟨x, x1, x2⟩ := List.any_eq_true.mp hj
    rw [nbT x2] at hi
    have : ∀ x ∈ [0, 1, 2, 3, 4, 5, 6, 10, 11], ([7, 8, 9, 13].any (fun y => Nat.beq x y)) = false := by decide
    rw [this x x1] at hi
    cases hi
  have e : ∀ i q, [7, 8, 9, 13].any (fun x => Nat.beq i x) = true → a_I (s_I M (n0 + (j + 1)) k v) (n0 + (i + 1)) q = a_I M (n0 + (i + 1)) q := fun i q hi => aI_nk (fun w => by have := hj2 i hi; omega)
  refine ⟨En_w (by omega) R.1, St_w (by omega) R.2.1, Ff_s (by omega) R.2.2.1, LsA_o R.2.2.2.1, fun i hi => ?_, ?_⟩
  · rw [aJ_sI, e 13 i rfl]
    exact R.2.2.2.2.1 i hi
  · unfold LsF
    rw [e 7 0 rfl, e 7 _ rfl]
    refine ⟨R.2.2.2.2.2.1, fun q hq => ?_⟩
    rw [e 8 q rfl, e 9 q rfl]
    exact R.2.2.2.2.2.2 q hq
/-- a number of the shop is one more -/
theorem Rd_way {n0 : Nat} {B : Nat → Int} {lim : Nat} {M0 M : aM} {m : pmd} {L : lsT} {c : Int32} (hc : c.toInt = (l_wy L : Int) + 1) (h3 : l_wy L ≤ 3) (R : RdR n0 B lim M0 M m L) : RdR n0 B lim M0 (s_I M n0 10 c) m (L.1, L.2.1, (l_wy L + 1, L.2.2.1.2), L.2.2.2) := by
  have hn := En_n R.1
  have e : ∀ k, k ≠ 10 → a_I (s_I M n0 10 c) n0 k = a_I M n0 k := fun k hk => aI_nk (fun q => hk q.2)
  refine ⟨En_w hn R.1, St_w hn R.2.1, Ff_s (Nat.le_refl _) R.2.2.1, ?_, LsN_s R.2.2.2.2.1, LsF_s R.2.2.2.2.2⟩
  unfold LsA
  rw [aI_at, e 0 (by omega), e 1 (by omega), e 2 (by omega), e 3 (by omega), e 7 (by omega), e 11 (by omega), e 13 (by omega), e 12 (by omega), e 14 (by omega)]
  have h := R.2.2.2.1
  exact ⟨h.1, h.2.1, h.2.2.1, ⟨by rw [hc]; rfl, Nat.succ_le_succ h3⟩, h.2.2.2.2⟩
theorem Rd_hard {n0 : Nat} {B : Nat → Int} {lim : Nat} {M0 M : aM} {m : pmd} {L : lsT} {c : Int32} (hc : c.toInt = (l_hd L : Int) + 1) (h3 : l_hd L ≤ 9) (R : RdR n0 B lim M0 M m L) : RdR n0 B lim M0 (s_I M n0 11 c) m (L.1, L.2.1, (L.2.2.1.1, l_hd L + 1, L.2.2.1.2.2), L.2.2.2) := by
  have hn := En_n R.1
  have e : ∀ k, k ≠ 11 → a_I (s_I M n0 11 c) n0 k = a_I M n0 k := fun k hk => aI_nk (fun q => hk q.2)
  refine ⟨En_w hn R.1, St_w hn R.2.1, Ff_s (Nat.le_refl _) R.2.2.1, ?_, LsN_s R.2.2.2.2.1, LsF_s R.2.2.2.2.2⟩
  unfold LsA
  rw [aI_at, e 0 (by omega), e 1 (by omega), e 2 (by omega), e 3 (by omega), e 7 (by omega), e 10 (by omega), e 13 (by omega), e 12 (by omega), e 14 (by omega)]
  have h := R.2.2.2.1
  exact ⟨h.1, h.2.1, h.2.2.1, h.2.2.2.1, ⟨by rw [hc]; rfl, Nat.succ_le_succ h3⟩, h.2.2.2.2.2⟩
theorem Rd_seer {n0 : Nat} {B : Nat → Int} {lim : Nat} {M0 M : aM} {m : pmd} {L : lsT} {c : Int32} (hc : c.toInt = (l_se L : Int) + 1) (h3 : l_se L ≤ 3) (R : RdR n0 B lim M0 M m L) : RdR n0 B lim M0 (s_I M n0 13 c) m (L.1, L.2.1, (L.2.2.1.1, L.2.2.1.2.1, l_se L + 1), L.2.2.2) := by
  have hn := En_n R.1
  have e : ∀ k, k ≠ 13 → a_I (s_I M n0 13 c) n0 k = a_I M n0 k := fun k hk => aI_nk (fun q => hk q.2)
  refine ⟨En_w hn R.1, St_w hn R.2.1, Ff_s (Nat.le_refl _) R.2.2.1, ?_, LsN_s R.2.2.2.2.1, LsF_s R.2.2.2.2.2⟩
  unfold LsA
  rw [aI_at, e 0 (by omega), e 1 (by omega), e 2 (by omega), e 3 (by omega), e 7 (by omega), e 10 (by omega), e 11 (by omega), e 12 (by omega), e 14 (by omega)]
  have h := R.2.2.2.1
  exact ⟨h.1, h.2.1, h.2.2.1, h.2.2.2.1, h.2.2.2.2.1, ⟨by rw [hc]; rfl, Nat.succ_le_succ h3⟩, h.2.2.2.2.2.2⟩
theorem getD_l {l : List (Int × Int)} {x : Int × Int} {i : Nat} (h : i < l.length) : (l ++ [x]).getD i (0, 0) = l.getD i (0, 0) := by
  rw [List.getD_eq_getElem?_getD, List.getD_eq_getElem?_getD, List.getElem?_append_left h]
theorem getD_e {l : List (Int × Int)} {x : Int × Int} : (l ++ [x]).getD l.length (0, 0) = x := by
  rw [List.getD_eq_getElem?_getD, List.getElem?_append_right (Nat.le_refl _), Nat.sub_self]
  rfl
/-- a name more -/
theorem Rd_nam {n0 : Nat} {B : Nat → Int} {lim : Nat} {M0 M : aM} {m : pmd} {L : lsT} {j : Nat} {w : Int64} {sn c : Int32} {w' s' : Int} (hj : j = (l_nm L).length) (h7 : (l_nm L).length ≤ 7) (hw : w.toInt = w') (hs : sn.toInt = s' ∧ -1 ≤ sn.toInt ∧ sn.toInt ≤ 3) (hc : c.toInt = (j : Int) + 1) (R : RdR n0 B lim M0 M m L) : RdR n0 B lim M0 (s_I (s_I (s_J M (n0 + 13) j w) (n0 + 14) j sn) n0 14 c) m (L.1, L.2.1, L.2.2.1, L.2.2.2.1, l_nm L ++ [(w', s')]) := by
  have hn := En_n R.1
  subst hj
  have e : ∀ k, k ≠ 14 → a_I (s_I (s_I (s_J M (n0 + 13) (l_nm L).length w) (n0 + 14) (l_nm L).length sn) n0 14 c) n0 k = a_I M n0 k := fun k hk => by rw [aI_nk (fun q => hk q.2), aI_nk (fun q => by omega)]; rfl
  have e2 : ∀ i q, i ≠ 13 → a_I (s_I (s_I (s_J M (n0 + 13) (l_nm L).length w) (n0 + 14) (l_nm L).length sn) n0 14 c) (n0 + (i + 1)) q = a_I M (n0 + (i + 1)) q := fun i q hi => by rw [aI_nk (fun q => by omega), aI_nk (fun q => by omega)]; rfl
  refine ⟨En_w hn (En_w (by omega) (En_j R.1)), St_w hn (St_w (by omega) (St_j (by omega) R.2.1)), Ff_s (Nat.le_refl _) (Ff_s (by omega) (Ff_j (by omega) R.2.2.1)), ?_, fun i hi => ?_, ?_⟩
  · unfold LsA
    rw [aI_at, e 0 (by omega), e 1 (by omega), e 2 (by omega), e 3 (by omega), e 7 (by omega), e 10 (by omega), e 11 (by omega), e 12 (by omega), e 13 (by omega)]
    have h := R.2.2.2.1
    refine ⟨h.1, h.2.1, h.2.2.1, h.2.2.2.1, h.2.2.2.2.1, h.2.2.2.2.2.1, h.2.2.2.2.2.2.1, ?_, ?_⟩
    · show c.toInt = (((l_nm L) ++ [(w', s')]).length : Int)
      rw [hc, List.length_append]
      show _ = (((l_nm L).length + 1 : Nat) : Int)
      omega
    · show ((l_nm L) ++ [(w', s')]).length ≤ 8
      rw [List.length_append]
      show (l_nm L).length + 1 ≤ 8
      omega
  · have hi : i < ((l_nm L) ++ [(w', s')]).length := hi
    rw [List.length_append] at hi
    have hi : i < (l_nm L).length + 1 := hi
    rw [aJ_sI, aJ_sI, aI_nk (fun q => by omega)]
    show _ = (((l_nm L) ++ [(w', s')]).getD i (0, 0)).1 ∧ _ = (((l_nm L) ++ [(w', s')]).getD i (0, 0)).2 ∧ _ ≤ (((l_nm L) ++ [(w', s')]).getD i (0, 0)).2 ∧ (((l_nm L) ++ [(w', s')]).getD i (0, 0)).2 ≤ 3
    by_cases hc : i < (l_nm L).length
    · rw [getD_l hc, aJ_sJ, if_neg (fun q => by omega), aI_nk (fun q => by omega)]
      exact R.2.2.2.2.1 i hc
    · have : i = (l_nm L).length := by omega
      subst this
      rw [getD_e, aJ_sJ, if_pos ⟨rfl, rfl⟩, aI_at]
      exact ⟨hw, hs.1, by omega, by omega⟩
  · unfold LsF
    rw [e2 7 0 (by omega), e2 7 _ (by omega)]
    refine ⟨R.2.2.2.2.2.1, fun q hq => ?_⟩
    rw [e2 8 q (by omega), e2 9 q (by omega)]
    exact R.2.2.2.2.2.2 q hq
theorem adv_r {B : Nat → Int} {lim : Nat} {f : Nat × Nat} : m_adv B lim (.inr f) = .inr f := rfl
set_option maxHeartbeats 4000000 in
theorem r_named {cd : Nat → Nat → Option aI} {z : Bool} (hz : ∀ m p i, cd0 z m p = some i → cd m p = some i) {n0 : Nat} {B : Nat → Int} {lim : Nat} {M0 M : aM} {L : lsT} {p : Nat} (R : RdR n0 B lim M0 M (.inl p) L) (hk : knd B lim p = 1) {x sn : Int32} {full : Bool} (hx : x = bif full then 1 else 0) (hsn : full = false → -1 ≤ sn.toInt ∧ sn.toInt ≤ 3) (hl : full = false → (l_nm L).length ≤ 7) {d : Nat} : wpS cd (d + 8, [], 175, 0, nv_l (tauN n0) (la 0 [.inr (.inr (some 113)), .inl x, .inl sn]), [], M) (fun r M' => r = none ∧ RdF n0 B lim M0 M' (nam3 B lim L p full) (namL B lim L p full sn.toInt)) := by
  show wpS cd (nv_S (tauN n0) (d + 8, [], 175, 0, la 0 [.inr (.inr (some 113)), .inl x, .inl sn], [], M)) _
  have hct := hc_of hz
  refine nv_cut hct nvR 175 1 4 (S' := (d + 8, [], 175, 1, [(0, .inr (.inr (some 113))), (1, .inl x), (2, .inl sn)], [.inl x], M)) R.1.1 rfl ?_
  have key : ∀ M1, RdR n0 B lim M0 M1 (m_if B lim 5 full (.inl p)) L → wpS cd (nv_S (tauN n0) (d + 8, [], 175, 9, [(0, .inr (.inr (some 113))), (1, .inl x), (2, .inl sn)], [], M1)) (fun r M' => r = none ∧ RdF n0 B lim M0 M' (nam3 B lim L p full) (namL B lim L p full sn.toInt)) := by
    intro M1 R1
    refine nv_cut hct nvR 162 0 5 (S' := (d + 7, [(175, 13, [(0, .inr (.inr (some 113))), (1, .inl x), (2, .inl sn)], [])], 162, 0, la 0 [.inr (.inr (some 113))], [], M1)) R1.1.1 rfl ?_
    refine nv_callv (r_adv hz R1.1 R1.2.1 (if_ok (hok1 hk))) (fun M2 ⟨f2, S2⟩ => ?_)
    have R2 : RdR n0 B lim M0 M2 (nam0 B lim p full) L := Rd_x R1 f2 S2
    refine nv_cut hct nvR 169 0 5 (S' := (d + 7, [(175, 17, [(0, .inr (.inr (some 113))), (1, .inl x), (2, .inl sn)], [])], 169, 0, la 0 [.inr (.inr (some 113))], [], M2)) R2.1.1 rfl ?_
    refine nv_calli (r_isName hz R2.1 R2.2.1) (fun y M3 ⟨e3, hy⟩ => ?_)
    subst e3
    refine nv_cut hct nvR 175 17 3 (S' := (d + 8, [], 175, 17, [(0, .inr (.inr (some 113))), (1, .inl x), (2, .inl sn)], [.inl y], M3)) R2.1.1 rfl ?_
    have key2 : ∀ M4, RdR n0 B lim M0 M4 (nam1 B lim p full) L → wpS cd (nv_S (tauN n0) (d + 8, [], 175, 25, [(0, .inr (.inr (some 113))), (1, .inl x), (2, .inl sn)], [], M4)) (fun r M' => r = none ∧ RdF n0 B lim M0 M' (nam3 B lim L p full) (namL B lim L p full sn.toInt)) := by
      intro M4 R4
      refine nv_cut hct nvR 147 0 8 (S' := (d + 7, [(175, 36, [(0, .inr (.inr (some 113))), (1, .inl x), (2, .inl sn)], [])], 147, 0, la 0 [.inr (.inr (some 137)), .inr (.inl (a_J M4 113 15))], [], M4)) R4.1.1 rfl ?_
      refine nv_calli (r_find hz R4) (fun k M5 ⟨e5, hf⟩ => ?_)
      subst e5
      refine nv_cut hct nvR 175 37 4 (S' := (d + 8, [], 175, 37, [(0, .inr (.inr (some 113))), (1, .inl x), (2, .inl sn)], [.inl (-1 : Int32), .inl k], M5)) R4.1.1 rfl ?_
      have key3 : ∀ M6, RdR n0 B lim M0 M6 (nam2 B lim L p full) L → wpS cd (nv_S (tauN n0) (d + 8, [], 175, 45, [(0, .inr (.inr (some 113))), (1, .inl x), (2, .inl sn)], [], M6)) (fun r M' => r = none ∧ RdF n0 B lim M0 M' (nam3 B lim L p full) (namL B lim L p full sn.toInt)) := by
        intro M6 R6
        refine nv_cut hct nvR 175 50 6 (S' := (d + 8, [], 175, 50, [(0, .inr (.inr (some 113))), (1, .inl x), (2, .inl sn)], [.inl (5 : Int32), .inl (a_I M6 113 9)], M6)) R6.1.1 rfl ?_
        cases hm : nam2 B lim L p full with
        | inr f =>
          have S := R6.2.1
          rw [hm] at S
          refine nv_ifc hct false rfl (ccF5 rfl (show ((5 : Int32)).toInt = 5 from rfl) (by rw [S.1]; rfl)) ?_
          refine nv_cut hct nvR 175 53 3 (S' := (d + 8, [], 175, 53, [(0, .inr (.inr (some 113))), (1, .inl x), (2, .inl sn)], [], M6)) R6.1.1 rfl ?_
          have hm3 : nam3 B lim L p full = .inr f := by unfold nam3; rw [hm]; rfl
          exact nv_vret hct rfl ⟨rfl, R6.1, by rw [hm3]; exact S, R6.2.2.1, fun q e => by rw [hm3] at e; cases e⟩
        | inl q =>
          have S := R6.2.1
          rw [hm] at S
          obtain ⟨e1, hfd⟩ := if_inl (show m_if B lim 3 (!decide (l_fd L (m_hs B lim (nam0 B lim p full)) = -1)) (nam1 B lim p full) = .inl q from hm)
          obtain ⟨e0, hkq⟩ := name_1 (show m_if B lim 1 (!m_name B lim (nam0 B lim p full)) (nam0 B lim p full) = .inl q from e1)
          have hfull : full = false := by
            obtain ⟨q0, h0⟩ := adv_inl (show m_adv B lim (m_if B lim 5 full (.inl p)) = .inl q from e0)
            exact (if_inl h0).2
          have h7 := hl hfull
          have hnm := R6.2.2.2.1.2.2.2.2.2.2.2.1
          have hw := word_h S hkq
          refine nv_ifc hct true rfl (ccT5 rfl (show ((5 : Int32)).toInt = 5 from rfl) (St_5 S)) ?_
          refine nv_cut hct nvR 175 72 11 (S' := (d + 8, [], 175, 72, [(0, .inr (.inr (some 113))), (1, .inl x), (2, .inl sn)], [.inr (.inl (a_J M6 113 15)), .inl (a_I M6 n0 14), .inr (.inr (some 150))], M6)) R6.1.1 rfl ?_
          refine nv_last hz R6.1.1 rfl (show nvR.1 150 = 16 + 1 from rfl) (show nvR.2.1 150 = 8 + 1 from rfl) (inb_p hnm (by omega)) ?_
          refine nv_cut hct nvR 175 88 10 (S' := (d + 8, [], 175, 88, [(0, .inr (.inr (some 113))), (1, .inl x), (2, .inl sn)], [.inl sn, .inl (a_I M6 n0 14), .inr (.inr (some 151))], (s_J M6 (n0 + 13) (a_I M6 n0 14).toNatClampNeg (a_J M6 113 15)))) R6.1.1 rfl ?_
          refine nv_ast hct R6.1.1 rfl (show nvR.1 151 = 15 + 1 from rfl) (show nvR.2.1 151 = 8 + 1 from rfl) (inb_p hnm (by omega)) ?_
          have hix : a_I (s_I (s_J M6 (n0 + 13) (a_I M6 n0 14).toNatClampNeg (a_J M6 113 15)) (n0 + 14) (a_I M6 n0 14).toNatClampNeg sn) n0 14 = a_I M6 n0 14 := aI_nk (fun q => by omega)
          refine nv_cut hct nvR 162 0 12 (S' := (d + 7, [(175, 106, [(0, .inr (.inr (some 113))), (1, .inl x), (2, .inl sn)], [])], 162, 0, la 0 [.inr (.inr (some 113))], [], (s_I (s_I (s_J M6 (n0 + 13) (a_I M6 n0 14).toNatClampNeg (a_J M6 113 15)) (n0 + 14) (a_I M6 n0 14).toNatClampNeg sn) n0 14 ((a_I (s_I (s_J M6 (n0 + 13) (a_I M6 n0 14).toNatClampNeg (a_J M6 113 15)) (n0 + 14) (a_I M6 n0 14).toNatClampNeg sn) n0 14) + (1 : Int32))))) R6.1.1 rfl ?_
          rw [hix, tnc hnm]
          have R9 := Rd_nam (w := a_J M6 113 15) (sn := sn) (c := a_I M6 n0 14 + 1) rfl h7 hw ⟨rfl, hsn hfull⟩ (add_p hnm (by omega) (by omega)) R6
          rw [hm] at R9
          refine nv_callv (r_adv hz R9.1 R9.2.1 (hok1 hkq)) (fun M10 ⟨f10, S10⟩ => ?_)
          have R10 := Rd_x R9 f10 S10
          refine nv_cut hct nvR 175 106 3 (S' := (d + 8, [], 175, 106, [(0, .inr (.inr (some 113))), (1, .inl x), (2, .inl sn)], [], M10)) R10.1.1 rfl ?_
          have hm3 : nam3 B lim L p full = m_adv B lim (.inl q) := by unfold nam3; rw [hm]
          rw [hm3]
          have hL : namL B lim L p full sn.toInt = (L.1, L.2.1, L.2.2.1, L.2.2.2.1, l_nm L ++ [(m_hs B lim (.inl q), sn.toInt)]) := by unfold namL; rw [e0]
          rw [hL]
          exact nv_vret hct rfl ⟨rfl, Rd_F R10⟩
      cases hn1 : nam1 B lim p full with
      | inr f =>
        have hn2 : nam2 B lim L p full = .inr f := by
          unfold nam2 m_if; rw [hn1]
          cases (!decide (l_fd L (m_hs B lim (nam0 B lim p full)) = -1)) <;> rfl
        rw [hn1] at R4
        by_cases hc : k.toInt = -1
        · skip
          refine nv_ifc hct true rfl (ccT1 rfl (show ((-1 : Int32)).toInt = -1 from rfl) hc) ?_
          exact key3 M5 (by rw [hn2]; exact R4)
        · skip
          refine nv_ifc hct false rfl (ccF1 rfl (show ((-1 : Int32)).toInt = -1 from rfl) hc) ?_
          refine nv_cut hct nvR 163 0 6 (S' := (d + 7, [(175, 45, [(0, .inr (.inr (some 113))), (1, .inl x), (2, .inl sn)], [])], 163, 0, la 0 [.inr (.inr (some 113)), .inl (3 : Int32)], [], M5)) R4.1.1 rfl ?_
          refine nv_callv (r_wrong hz R4.1 R4.2.1 (kn := 3) rfl (by decide)) (fun M6 ⟨f6, S6⟩ => ?_)
          have R6 := Rd_x R4 f6 S6
          refine nv_cut hct nvR 175 45 3 (S' := (d + 8, [], 175, 45, [(0, .inr (.inr (some 113))), (1, .inl x), (2, .inl sn)], [], M6)) R6.1.1 rfl ?_
          exact key3 M6 (by rw [hn2]; exact R6)
      | inl q =>
        obtain ⟨e0, hkq⟩ := name_1 (show m_if B lim 1 (!m_name B lim (nam0 B lim p full)) (nam0 B lim p full) = .inl q from hn1)
        rw [hn1] at R4
        have hw := word_h R4.2.1 hkq
        rw [hw, ← e0] at hf
        by_cases hc : k.toInt = -1
        · skip
          refine nv_ifc hct true rfl (ccT1 rfl (show ((-1 : Int32)).toInt = -1 from rfl) hc) ?_
          exact key3 M5 (by unfold nam2 m_if; rw [← hf, decide_eq_true hc, hn1]; exact R4)
        · skip
          refine nv_ifc hct false rfl (ccF1 rfl (show ((-1 : Int32)).toInt = -1 from rfl) hc) ?_
          refine nv_cut hct nvR 163 0 6 (S' := (d + 7, [(175, 45, [(0, .inr (.inr (some 113))), (1, .inl x), (2, .inl sn)], [])], 163, 0, la 0 [.inr (.inr (some 113)), .inl (3 : Int32)], [], M5)) R4.1.1 rfl ?_
          refine nv_callv (r_wrong hz R4.1 R4.2.1 (kn := 3) rfl (by decide)) (fun M6 ⟨f6, S6⟩ => ?_)
          have R6 := Rd_x R4 f6 S6
          refine nv_cut hct nvR 175 45 3 (S' := (d + 8, [], 175, 45, [(0, .inr (.inr (some 113))), (1, .inl x), (2, .inl sn)], [], M6)) R6.1.1 rfl ?_
          exact key3 M6 (by unfold nam2 m_if; rw [← hf, decide_eq_false hc, hn1]; exact R6)
    cases hc : m_name B lim (nam0 B lim p full) with
    | true =>
      refine nv_if hct true rfl (zcT5 (show y.toInt = 1 by rw [hy, hc]; rfl) (by decide)) ?_
      exact key2 M3 (by unfold nam1 m_if; rw [hc]; exact R2)
    | false =>
      refine nv_if hct false rfl (zcF5 (show y.toInt = 0 by rw [hy, hc]; rfl) rfl) ?_
      refine nv_cut hct nvR 163 0 6 (S' := (d + 7, [(175, 25, [(0, .inr (.inr (some 113))), (1, .inl x), (2, .inl sn)], [])], 163, 0, la 0 [.inr (.inr (some 113)), .inl (1 : Int32)], [], M3)) R2.1.1 rfl ?_
      refine nv_callv (r_wrong hz R2.1 R2.2.1 (kn := 1) rfl (by decide)) (fun M4 ⟨f4, S4⟩ => ?_)
      have R4 := Rd_x R2 f4 S4
      refine nv_cut hct nvR 175 25 3 (S' := (d + 8, [], 175, 25, [(0, .inr (.inr (some 113))), (1, .inl x), (2, .inl sn)], [], M4)) R4.1.1 rfl ?_
      exact key2 M4 (by unfold nam1 m_if; rw [hc]; exact R4)
  cases full with
  | true =>
    refine nv_if hct false rfl (zcF1 (show x.toInt = 1 by rw [hx]; rfl) (by decide)) ?_
    refine nv_cut hct nvR 163 0 6 (S' := (d + 7, [(175, 9, [(0, .inr (.inr (some 113))), (1, .inl x), (2, .inl sn)], [])], 163, 0, la 0 [.inr (.inr (some 113)), .inl (5 : Int32)], [], M)) R.1.1 rfl ?_
    refine nv_callv (r_wrong hz R.1 R.2.1 (kn := 5) rfl (by decide)) (fun M1 ⟨f1, S1⟩ => ?_)
    have R1 := Rd_x R f1 S1
    refine nv_cut hct nvR 175 9 3 (S' := (d + 8, [], 175, 9, [(0, .inr (.inr (some 113))), (1, .inl x), (2, .inl sn)], [], M1)) R1.1.1 rfl ?_
    exact key M1 R1
  | false =>
    refine nv_if hct true rfl (zcT1 (show x.toInt = 0 by rw [hx]; rfl) rfl) ?_
    exact key M R

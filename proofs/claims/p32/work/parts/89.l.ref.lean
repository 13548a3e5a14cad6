/-! from of the reference: printed by wip/gen/refp7.py -/
def frm0 (B : Nat → Int) (lim : Nat) (L : lsT) (p : Nat) : pmd := m_adv B lim (m_if B lim 5 (decide (l_fr L = 8)) (.inl p))
def frm1 (B : Nat → Int) (lim : Nat) (L : lsT) (p : Nat) : pmd := m_wh B lim (l_fl L + 1) 29 (frm0 B lim L p)
def frm2 (B : Nat → Int) (lim : Nat) (L : lsT) (p : Nat) : pmd := m_pt B lim (txc 50) 1 9 (frm1 B lim L p)
def frm3 (B : Nat → Int) (lim : Nat) (L : lsT) (p : Nat) : pmd := m_wd B lim (txc 37) (frm2 B lim L p)
def frm4 (B : Nat → Int) (lim : Nat) (L : lsT) (p : Nat) : pmd := m_if B lim 1 (!m_name B lim (frm3 B lim L p)) (frm3 B lim L p)
def nosn (L : lsT) (w : Int) : Bool := decide (l_fd L w = -1) || decide (((l_nm L).getD (l_fd L w).toNat (0, 0)).2 = -1)
def frm5 (B : Nat → Int) (lim : Nat) (L : lsT) (p : Nat) : pmd := m_if B lim 2 (nosn L (m_hs B lim (frm3 B lim L p))) (frm4 B lim L p)
def frm6 (B : Nat → Int) (lim : Nat) (L : lsT) (p : Nat) : pmd := m_adv B lim (frm5 B lim L p)
def frm7 (B : Nat → Int) (lim : Nat) (L : lsT) (p : Nat) : pmd := m_eat B lim (txc 36) (frm6 B lim L p)
def frm8 (B : Nat → Int) (lim : Nat) (L : lsT) (p : Nat) : pmd := m_eat B lim (txc 41) (frm7 B lim L p)
def frmL (B : Nat → Int) (lim : Nat) (L : lsT) (p : Nat) : lsT := (L.1, L.2.1, L.2.2.1, (l_fr L + 1, (if l_fr L = 0 then m_val B lim (frm0 B lim L p) else l_f0 L), m_val B lim (frm0 B lim L p)), l_nm L)
theorem fd_bd {L : lsT} {w : Int} : l_fd L w = -1 ∨ ∃ k : Nat, l_fd L w = (k : Int) ∧ k < (l_nm L).length := by
  rcases fnx_bd (P := fun j => decide (((l_nm L).getD j (0, 0)).1 = w)) (f := (l_nm L).length) (j := 0) with h | ⟨k, h1, _, h3, _⟩
  · exact Or.inl h
  · exact Or.inr ⟨k, h1, by omega⟩
theorem LsN_o {n0 : Nat} {M : aM} {L : lsT} {j k : Nat} {v : Int32} (hj : j ≠ 13) (h : LsN n0 M L) : LsN n0 (s_I M (n0 + (j + 1)) k v) L := fun i hi => by
  rw [aJ_sI, aI_nk (fun q => by omega)]
  exact h i hi
theorem Rd_f8 {n0 : Nat} {B : Nat → Int} {lim : Nat} {M0 M : aM} {m : pmd} {L : lsT} {v : Int32} (R : RdR n0 B lim M0 M m L) : RdR n0 B lim M0 (s_I M (n0 + 8) (l_fr L) v) m L := by
  have hn := En_n R.1
  refine ⟨En_w (by omega) R.1, St_w (by omega) R.2.1, Ff_s (by omega) R.2.2.1, LsA_o (j := 7) R.2.2.2.1, LsN_o (j := 7) (by omega) R.2.2.2.2.1, ?_, fun k hk => ?_⟩
  · rcases R.2.2.2.2.2.1 with h | ⟨h1, h2, h3, h4⟩
    · exact Or.inl h
    · exact Or.inr ⟨h1, by rw [aI_nk (fun q => by omega)]; exact h2, by rw [aI_nk (fun q => by omega)]; exact h3, h4⟩
  · rw [aI_nk (fun q => by omega), aI_nk (fun q => by omega)]
    exact R.2.2.2.2.2.2 k hk
theorem Rd_f9 {n0 : Nat} {B : Nat → Int} {lim : Nat} {M0 M : aM} {m : pmd} {L : lsT} {v : Int32} (hv : 1 ≤ v.toInt ∧ v.toInt ≤ 9) (R : RdR n0 B lim M0 M m L) : RdR n0 B lim M0 (s_I M (n0 + 9) (l_fr L) v) m L := by
  have hn := En_n R.1
  refine ⟨En_w (by omega) R.1, St_w (by omega) R.2.1, Ff_s (by omega) R.2.2.1, LsA_o (j := 8) R.2.2.2.1, LsN_o (j := 8) (by omega) R.2.2.2.2.1, ?_, fun k hk => ?_⟩
  · rw [aI_nk (fun q => by omega), aI_nk (fun q => by omega)]
    exact R.2.2.2.2.2.1
  · rw [aI_nk (a := n0 + 9) (b := n0 + 10) (fun q => by omega)]
    obtain ⟨g1, g2, g3⟩ := R.2.2.2.2.2.2 k hk
    by_cases e : k = l_fr L
    · subst e
      rw [aI_at]
      exact ⟨by omega, fun _ => hv.1, g3⟩
    · rw [aI_nk (fun q => e q.2)]
      exact ⟨g1, g2, g3⟩
theorem Rd_f10 {n0 : Nat} {B : Nat → Int} {lim : Nat} {M0 M : aM} {m : pmd} {L : lsT} {v : Int32} (hv : 0 ≤ v.toInt ∧ v.toInt ≤ 3) (R : RdR n0 B lim M0 M m L) : RdR n0 B lim M0 (s_I M (n0 + 10) (l_fr L) v) m L := by
  have hn := En_n R.1
  refine ⟨En_w (by omega) R.1, St_w (by omega) R.2.1, Ff_s (by omega) R.2.2.1, LsA_o (j := 9) R.2.2.2.1, LsN_o (j := 9) (by omega) R.2.2.2.2.1, ?_, fun k hk => ?_⟩
  · rw [aI_nk (fun q => by omega), aI_nk (fun q => by omega)]
    exact R.2.2.2.2.2.1
  · rw [aI_nk (a := n0 + 10) (b := n0 + 9) (fun q => by omega)]
    obtain ⟨g1, g2, g3⟩ := R.2.2.2.2.2.2 k hk
    by_cases e : k = l_fr L
    · subst e
      rw [aI_at]
      exact ⟨g1, g2, hv⟩
    · rw [aI_nk (fun q => e q.2)]
      exact ⟨g1, g2, g3⟩
theorem Rd_frm {n0 : Nat} {B : Nat → Int} {lim : Nat} {M0 M : aM} {m : pmd} {L : lsT} {c : Int32} {v : Int} (hc : c.toInt = (l_fr L : Int) + 1) (h7 : l_fr L ≤ 7) (h8 : (a_I M (n0 + 8) (l_fr L)).toInt = v ∧ 0 ≤ v ∧ v ≤ 29) (h9 : 1 ≤ (a_I M (n0 + 9) (l_fr L)).toInt) (R : RdR n0 B lim M0 M m L) : RdR n0 B lim M0 (s_I M n0 12 c) m (L.1, L.2.1, L.2.2.1, (l_fr L + 1, (if l_fr L = 0 then v else l_f0 L), v), l_nm L) := by
  have hn := En_n R.1
  have e : ∀ k, k ≠ 12 → a_I (s_I M n0 12 c) n0 k = a_I M n0 k := fun k hk => aI_nk (fun q => hk q.2)
  have e2 : ∀ j q, a_I (s_I M n0 12 c) (n0 + (j + 1)) q = a_I M (n0 + (j + 1)) q := fun j q => aI_nk (fun w => by omega)
  refine ⟨En_w hn R.1, St_w hn R.2.1, Ff_s (Nat.le_refl _) R.2.2.1, ?_, LsN_s R.2.2.2.2.1, ?_, fun k hk => ?_⟩
  · unfold LsA
    rw [aI_at, e 0 (by omega), e 1 (by omega), e 2 (by omega), e 3 (by omega), e 7 (by omega), e 10 (by omega), e 11 (by omega), e 13 (by omega), e 14 (by omega)]
    have h := R.2.2.2.1
    exact ⟨h.1, h.2.1, h.2.2.1, h.2.2.2.1, h.2.2.2.2.1, h.2.2.2.2.2.1, ⟨by rw [hc]; rfl, Nat.succ_le_succ h7⟩, h.2.2.2.2.2.2.2⟩
  · refine Or.inr ⟨Nat.succ_le_succ (Nat.zero_le _), ?_, ?_, h8.2⟩
    · rw [e2 7]
      show _ = (if l_fr L = 0 then v else l_f0 L)
      rcases R.2.2.2.2.2.1 with ⟨h, _⟩ | ⟨h1, h2, _⟩
      · rw [if_pos h]
        rw [h] at h8
        exact h8.1
      · rw [if_neg (by omega)]
        exact h2
    · rw [e2 7]
      show (a_I M (n0 + 8) (l_fr L + 1 - 1)).toInt = v
      rw [show l_fr L + 1 - 1 = l_fr L by omega]
      exact h8.1
  · rw [e2 8, e2 9]
    obtain ⟨g1, g2, g3⟩ := R.2.2.2.2.2.2 k hk
    refine ⟨g1, fun hk1 => ?_, g3⟩
    have hk1 : k < l_fr L + 1 := hk1
    by_cases e : k = l_fr L
    · rw [e]; exact h9
    · exact g2 (by omega)
theorem eat_r {B : Nat → Int} {lim : Nat} {w : List Nat} {f : Nat × Nat} : m_eat B lim w (.inr f) = .inr f := rfl
theorem eat_l {B : Nat → Int} {lim : Nat} {w : List Nat} {p : Nat} : ∃ q, m_eat B lim w (.inl p) = .inl q := by
  unfold m_eat
  cases m_is B lim w (.inl p) with
  | true => exact ⟨_, rfl⟩
  | false => exact ⟨_, rfl⟩
theorem Fx_n0 {n0 : Nat} {M M' : aM} (hn : 137 ≤ n0) (h : FrX [8, 9, 10, 11, 12, 13, 14] M M') (j k : Nat) : a_I M' (n0 + j) k = a_I M (n0 + j) k := h.2.2.1 (n0 + j) k (fun q => by omega)
set_option maxHeartbeats 8000000 in
theorem r_frm {cd : Nat → Nat → Option aI} {z : Bool} (hz : ∀ m p i, cd0 z m p = some i → cd m p = some i) {n0 : Nat} {B : Nat → Int} {lim : Nat} {M0 M : aM} {L : lsT} {p : Nat} (R : RdR n0 B lim M0 M (.inl p) L) (hk : knd B lim p = 1) {d : Nat} : wpS cd (d + 8, [], 178, 0, nv_l (tauN n0) (la 0 [.inr (.inr (some 113))]), [], M) (fun r M' => r = none ∧ RdF n0 B lim M0 M' (frm8 B lim L p) (frmL B lim L p)) := by
  show wpS cd (nv_S (tauN n0) (d + 8, [], 178, 0, la 0 [.inr (.inr (some 113))], [], M)) _
  have hct := hc_of hz
  have hfr := R.2.2.2.1.2.2.2.2.2.2.1
  have hnl := R.2.2.2.1.2.2.2.2.2.2.2.2
  refine nv_cut hct nvR 178 9 7 (S' := (d + 8, [], 178, 9, [(0, .inr (.inr (some 113)))], [.inl (8 : Int32), .inl (a_I M n0 12)], M)) R.1.1 rfl ?_
  have key : ∀ M1, RdR n0 B lim M0 M1 (m_if B lim 5 (decide (l_fr L = 8)) (.inl p)) L → wpS cd (nv_S (tauN n0) (d + 8, [], 178, 17, [(0, .inr (.inr (some 113)))], [], M1)) (fun r M' => r = none ∧ RdF n0 B lim M0 M' (frm8 B lim L p) (frmL B lim L p)) := by
    intro M1 R1
    refine nv_cut hct nvR 162 0 5 (S' := (d + 7, [(178, 21, [(0, .inr (.inr (some 113)))], [])], 162, 0, la 0 [.inr (.inr (some 113))], [], M1)) R1.1.1 rfl ?_
    refine nv_callv (r_adv hz R1.1 R1.2.1 (if_ok (hok1 hk))) (fun M2 ⟨f2, S2⟩ => ?_)
    have R2 : RdR n0 B lim M0 M2 (frm0 B lim L p) L := Rd_x R1 f2 S2
    refine nv_cut hct nvR 178 29 7 (S' := (d + 8, [], 178, 29, [(0, .inr (.inr (some 113)))], [.inl (a_I M2 n0 12), .inr (.inr (some 113))], M2)) R2.1.1 rfl ?_
    have hfr2 := R2.2.2.2.1.2.2.2.2.2.2.1.1
    have key2 : ∀ M3 v3, RdR n0 B lim M0 M3 (frm1 B lim L p) L → (∀ q, frm1 B lim L p = .inl q → v3.toInt = m_val B lim (frm0 B lim L p) ∧ l_fl L + 1 ≤ v3.toInt ∧ v3.toInt ≤ 29) → wpS cd (nv_S (tauN n0) (d + 8, [], 178, 60, [(0, .inr (.inr (some 113)))], [.inl v3], M3)) (fun r M' => r = none ∧ RdF n0 B lim M0 M' (frm8 B lim L p) (frmL B lim L p)) := by
      intro M3 v3 R3 h3
      refine nv_cut hct nvR 168 0 9 (S' := (d + 7, [(178, 71, [(1, .inl v3), (0, .inr (.inr (some 113)))], [])], 168, 0, la 0 [.inr (.inr (some 113)), .inr (.inr (some (aSB + 50))), .inl (1 : Int32), .inl (9 : Int32)], [], M3)) R3.1.1 rfl ?_
      refine nv_calli (r_readPart hz R3.1 R3.2.1 (k := 50) (by decide)) (fun v4 M4 ⟨f4, S4, h4⟩ => ?_)
      have R4 : RdR n0 B lim M0 M4 (frm2 B lim L p) L := Rd_x R3 f4 S4
      have h4 : ∀ q, frm2 B lim L p = .inl q → v4.toInt = m_val B lim (m_wd B lim (txc 50) (frm1 B lim L p)) ∧ 1 ≤ v4.toInt ∧ v4.toInt ≤ 9 := h4
      refine nv_cut hct nvR 165 0 7 (S' := (d + 7, [(178, 78, [(2, .inl v4), (1, .inl v3), (0, .inr (.inr (some 113)))], [])], 165, 0, la 0 [.inr (.inr (some 113)), .inr (.inr (some (aSB + 37)))], [], M4)) R4.1.1 rfl ?_
      refine nv_calli (r_isWord hz R4.1 R4.2.1 (k := 37) (by decide)) (fun x5 M5 ⟨e5, hx5⟩ => ?_)
      subst e5
      refine nv_cut hct nvR 178 78 3 (S' := (d + 8, [], 178, 78, [(2, .inl v4), (1, .inl v3), (0, .inr (.inr (some 113)))], [.inl x5], M5)) R4.1.1 rfl ?_
      have key3 : ∀ M6, RdR n0 B lim M0 M6 (m_if B lim 1 (!m_is B lim (txc 37) (frm2 B lim L p)) (frm2 B lim L p)) L → wpS cd (nv_S (tauN n0) (d + 8, [], 178, 86, [(2, .inl v4), (1, .inl v3), (0, .inr (.inr (some 113)))], [], M6)) (fun r M' => r = none ∧ RdF n0 B lim M0 M' (frm8 B lim L p) (frmL B lim L p)) := by
        intro M6 R6
        refine nv_cut hct nvR 162 0 5 (S' := (d + 7, [(178, 90, [(2, .inl v4), (1, .inl v3), (0, .inr (.inr (some 113)))], [])], 162, 0, la 0 [.inr (.inr (some 113))], [], M6)) R6.1.1 rfl ?_
        refine nv_callv (r_adv hz R6.1 R6.2.1 wd_ok) (fun M7 ⟨f7, S7⟩ => ?_)
        have R7 : RdR n0 B lim M0 M7 (frm3 B lim L p) L := Rd_x R6 f7 S7
        refine nv_cut hct nvR 169 0 5 (S' := (d + 7, [(178, 94, [(2, .inl v4), (1, .inl v3), (0, .inr (.inr (some 113)))], [])], 169, 0, la 0 [.inr (.inr (some 113))], [], M7)) R7.1.1 rfl ?_
        refine nv_calli (r_isName hz R7.1 R7.2.1) (fun x8 M8 ⟨e8, hx8⟩ => ?_)
        subst e8
        refine nv_cut hct nvR 178 94 3 (S' := (d + 8, [], 178, 94, [(2, .inl v4), (1, .inl v3), (0, .inr (.inr (some 113)))], [.inl x8], M8)) R7.1.1 rfl ?_
        have key4 : ∀ M9, RdR n0 B lim M0 M9 (frm4 B lim L p) L → wpS cd (nv_S (tauN n0) (d + 8, [], 178, 102, [(2, .inl v4), (1, .inl v3), (0, .inr (.inr (some 113)))], [], M9)) (fun r M' => r = none ∧ RdF n0 B lim M0 M' (frm8 B lim L p) (frmL B lim L p)) := by
          intro M9 R9
          refine nv_cut hct nvR 147 0 8 (S' := (d + 7, [(178, 113, [(2, .inl v4), (1, .inl v3), (0, .inr (.inr (some 113)))], [])], 147, 0, la 0 [.inr (.inr (some 137)), .inr (.inl (a_J M9 113 15))], [], M9)) R9.1.1 rfl ?_
          refine nv_calli (r_find hz R9) (fun k M10 ⟨e10, hf⟩ => ?_)
          subst e10
          refine nv_cut hct nvR 178 116 6 (S' := (d + 8, [], 178, 116, [(3, .inl k), (2, .inl v4), (1, .inl v3), (0, .inr (.inr (some 113)))], [.inl (-1 : Int32), .inl k], M10)) R9.1.1 rfl ?_
          have key5 : ∀ M11, RdR n0 B lim M0 M11 (frm5 B lim L p) L → (∀ q, frm5 B lim L p = .inl q → ∃ kk : Nat, k.toInt = (kk : Int) ∧ kk < (l_nm L).length ∧ 0 ≤ ((l_nm L).getD kk (0, 0)).2) → wpS cd (nv_S (tauN n0) (d + 8, [], 178, 137, [(3, .inl k), (2, .inl v4), (1, .inl v3), (0, .inr (.inr (some 113)))], [], M11)) (fun r M' => r = none ∧ RdF n0 B lim M0 M' (frm8 B lim L p) (frmL B lim L p)) := by
            intro M11 R11 hkk
            have hok5 : m_ok B lim (frm5 B lim L p) := fun q e => Or.inl (name_1 (show m_if B lim 1 (!m_name B lim (frm3 B lim L p)) (frm3 B lim L p) = .inl q from (if_inl e).1)).2
            refine nv_cut hct nvR 162 0 5 (S' := (d + 7, [(178, 141, [(3, .inl k), (2, .inl v4), (1, .inl v3), (0, .inr (.inr (some 113)))], [])], 162, 0, la 0 [.inr (.inr (some 113))], [], M11)) R11.1.1 rfl ?_
            refine nv_callv (r_adv hz R11.1 R11.2.1 hok5) (fun M12 ⟨f12, S12⟩ => ?_)
            have R12 : RdR n0 B lim M0 M12 (frm6 B lim L p) L := Rd_x R11 f12 S12
            refine nv_cut hct nvR 178 146 6 (S' := (d + 8, [], 178, 146, [(3, .inl k), (2, .inl v4), (1, .inl v3), (0, .inr (.inr (some 113)))], [.inl (5 : Int32), .inl (a_I M12 113 9)], M12)) R12.1.1 rfl ?_
            cases hm : frm6 B lim L p with
            | inr f =>
              have S := R12.2.1
              rw [hm] at S
              refine nv_ifc hct false rfl (ccF5 rfl (show ((5 : Int32)).toInt = 5 from rfl) (by rw [S.1]; rfl)) ?_
              refine nv_cut hct nvR 178 149 3 (S' := (d + 8, [], 178, 149, [(3, .inl k), (2, .inl v4), (1, .inl v3), (0, .inr (.inr (some 113)))], [], M12)) R12.1.1 rfl ?_
              have hm8 : frm8 B lim L p = .inr f := by unfold frm8 frm7; rw [hm]; rfl
              exact nv_vret hct rfl ⟨rfl, R12.1, by rw [hm8]; exact S, R12.2.2.1, fun q e => by rw [hm8] at e; cases e⟩
            | inl q =>
              obtain ⟨q5, e5⟩ := adv_inl (show m_adv B lim (frm5 B lim L p) = .inl q from hm)
              obtain ⟨kk, k1, k2, k3⟩ := hkk q5 e5
              have e4 := (if_inl (show m_if B lim 2 (nosn L (m_hs B lim (frm3 B lim L p))) (frm4 B lim L p) = .inl q5 from e5)).1
              have e3 := (name_1 (show m_if B lim 1 (!m_name B lim (frm3 B lim L p)) (frm3 B lim L p) = .inl q5 from e4)).1
              obtain ⟨q2, e2⟩ := adv_inl (show m_adv B lim (m_if B lim 1 (!m_is B lim (txc 37) (frm2 B lim L p)) (frm2 B lim L p)) = .inl q5 from e3)
              have e2 := (if_inl e2).1
              obtain ⟨q1, e1⟩ := pt_inl (show m_pt B lim (txc 50) 1 9 (frm1 B lim L p) = .inl q2 from e2)
              obtain ⟨q0, e0⟩ := wh_inl (show m_wh B lim (l_fl L + 1) 29 (frm0 B lim L p) = .inl q1 from e1)
              obtain ⟨q00, e00⟩ := adv_inl (show m_adv B lim (m_if B lim 5 (decide (l_fr L = 8)) (.inl p)) = .inl q0 from e0)
              have hw8 := of_decide_eq_false (if_inl e00).2
              have h3 := h3 q1 e1
              have h4 := h4 q2 e2
              have hn := En_n R12.1
              rw [hm] at R12
              refine nv_ifc hct true rfl (ccT5 rfl (show ((5 : Int32)).toInt = 5 from rfl) (St_5 R12.2.1)) ?_
              refine nv_cut hct nvR 178 165 10 (S' := (d + 8, [], 178, 165, [(3, .inl k), (2, .inl v4), (1, .inl v3), (0, .inr (.inr (some 113)))], [.inl v3, .inl (a_I M12 n0 12), .inr (.inr (some 145))], M12)) R12.1.1 rfl ?_
              have hi0 : (a_I M12 n0 12).toInt = (l_fr L : Int) := R12.2.2.2.1.2.2.2.2.2.2.1.1
              refine nv_ast hct R12.1.1 rfl (show nvR.1 145 = 15 + 1 from rfl) (show nvR.2.1 145 = 8 + 1 from rfl) (inb_p hi0 (by omega)) ?_
              rw [tnc hi0]
              show wpS cd (nv_S (tauN n0) (d + 8, [], 178, 166, [(3, .inl k), (2, .inl v4), (1, .inl v3), (0, .inr (.inr (some 113)))], [], (s_I M12 (n0 + 8) (l_fr L) v3))) _
              have R13 := Rd_f8 (v := v3) R12
              have G13 := (aI_at : a_I (s_I M12 (n0 + 8) (l_fr L) v3) (n0 + 8) (l_fr L) = v3)
              generalize hM13 : (s_I M12 (n0 + 8) (l_fr L) v3) = M13 at R13 G13 ⊢
              refine nv_cut hct nvR 178 181 10 (S' := (d + 8, [], 178, 181, [(3, .inl k), (2, .inl v4), (1, .inl v3), (0, .inr (.inr (some 113)))], [.inl v4, .inl (a_I M13 n0 12), .inr (.inr (some 146))], M13)) R13.1.1 rfl ?_
              have hi1 : (a_I M13 n0 12).toInt = (l_fr L : Int) := R13.2.2.2.1.2.2.2.2.2.2.1.1
              refine nv_ast hct R13.1.1 rfl (show nvR.1 146 = 15 + 1 from rfl) (show nvR.2.1 146 = 8 + 1 from rfl) (inb_p hi1 (by omega)) ?_
              rw [tnc hi1]
              show wpS cd (nv_S (tauN n0) (d + 8, [], 178, 182, [(3, .inl k), (2, .inl v4), (1, .inl v3), (0, .inr (.inr (some 113)))], [], (s_I M13 (n0 + 9) (l_fr L) v4))) _
              have R14 := Rd_f9 (v := v4) h4.2 R13
              have G14 := (aI_at : a_I (s_I M13 (n0 + 9) (l_fr L) v4) (n0 + 9) (l_fr L) = v4)
              have F14 := (show a_I (s_I M13 (n0 + 9) (l_fr L) v4) (n0 + 8) (l_fr L) = v3 from (aI_nk (fun q => by omega)).trans G13)
              generalize hM14 : (s_I M13 (n0 + 9) (l_fr L) v4) = M14 at R14 G14 F14 ⊢
              refine nv_cut hct nvR 178 204 13 (S' := (d + 8, [], 178, 204, [(3, .inl k), (2, .inl v4), (1, .inl v3), (0, .inr (.inr (some 113)))], [.inl k, .inr (.inr (some 151)), .inl (a_I M14 n0 12), .inr (.inr (some 147))], M14)) R14.1.1 rfl ?_
              refine nv_ald hct R14.1.1 rfl (show nvR.1 151 = 15 + 1 from rfl) (show nvR.2.1 151 = 8 + 1 from rfl) (inb_p k1 (by omega)) ?_
              rw [tnc k1]
              have hi2 : (a_I M14 n0 12).toInt = (l_fr L : Int) := R14.2.2.2.1.2.2.2.2.2.2.1.1
              have hsn := R14.2.2.2.2.1 kk k2
              refine nv_ast hct R14.1.1 rfl (show nvR.1 147 = 15 + 1 from rfl) (show nvR.2.1 147 = 8 + 1 from rfl) (inb_p hi2 (by omega)) ?_
              rw [tnc hi2]
              show wpS cd (nv_S (tauN n0) (d + 8, [], 178, 206, [(3, .inl k), (2, .inl v4), (1, .inl v3), (0, .inr (.inr (some 113)))], [], (s_I M14 (n0 + 10) (l_fr L) (a_I M14 (n0 + 14) kk)))) _
              have R15 := Rd_f10 (v := a_I M14 (n0 + 14) kk) ⟨by rw [hsn.2.1]; exact k3, by rw [hsn.2.1]; exact hsn.2.2.2⟩ R14
              have G15 := (show a_I (s_I M14 (n0 + 10) (l_fr L) (a_I M14 (n0 + 14) kk)) (n0 + 9) (l_fr L) = v4 from (aI_nk (fun q => by omega)).trans G14)
              have F15 := (show a_I (s_I M14 (n0 + 10) (l_fr L) (a_I M14 (n0 + 14) kk)) (n0 + 8) (l_fr L) = v3 from (aI_nk (fun q => by omega)).trans F14)
              generalize hM15 : (s_I M14 (n0 + 10) (l_fr L) (a_I M14 (n0 + 14) kk)) = M15 at R15 G15 F15 ⊢
              refine nv_cut hct nvR 166 0 12 (S' := (d + 7, [(178, 226, [(3, .inl k), (2, .inl v4), (1, .inl v3), (0, .inr (.inr (some 113)))], [.inl (a_I M15 n0 12), .inr (.inr (some 148))])], 166, 0, la 0 [.inr (.inr (some 113)), .inr (.inr (some (aSB + 36)))], [], M15)) R15.1.1 rfl ?_
              refine nv_calli (r_eats hz R15.1 R15.2.1 (k := 36) (by decide)) (fun x16 M16 ⟨f16, S16, hx16⟩ => ?_)
              have R16 := Rd_x R15 f16 S16
              have G16 : a_I M16 (n0 + 9) (l_fr L) = v4 := (Fx_n0 hn f16 9 _).trans G15
              have F16 : a_I M16 (n0 + 8) (l_fr L) = v3 := (Fx_n0 hn f16 8 _).trans F15
              have hi15 : ((a_I M15 n0 12)).toInt = (l_fr L : Int) := R15.2.2.2.1.2.2.2.2.2.2.1.1
              refine nv_ast hct R16.1.1 rfl (show nvR.1 148 = 17 + 1 from rfl) (show nvR.2.1 148 = 8 + 1 from rfl) (inb_p hi15 (by omega)) ?_
              show wpS cd (nv_S (tauN n0) (d + 8, [], 178, 227, [(3, .inl k), (2, .inl v4), (1, .inl v3), (0, .inr (.inr (some 113)))], [], (s_I M16 (n0 + 11) (a_I M15 n0 12).toNatClampNeg (astf 2 x16)))) _
              have R17 := Rd_arr (j := 10) (k := (a_I M15 n0 12).toNatClampNeg) (v := (astf 2 x16)) rfl R16
              have G17 := (show a_I (s_I M16 (n0 + 11) (a_I M15 n0 12).toNatClampNeg (astf 2 x16)) (n0 + 9) (l_fr L) = v4 from (aI_nk (fun q => by omega)).trans G16)
              have F17 := (show a_I (s_I M16 (n0 + 11) (a_I M15 n0 12).toNatClampNeg (astf 2 x16)) (n0 + 8) (l_fr L) = v3 from (aI_nk (fun q => by omega)).trans F16)
              generalize hM17 : (s_I M16 (n0 + 11) (a_I M15 n0 12).toNatClampNeg (astf 2 x16)) = M17 at R17 G17 F17 ⊢
              refine nv_cut hct nvR 166 0 12 (S' := (d + 7, [(178, 247, [(3, .inl k), (2, .inl v4), (1, .inl v3), (0, .inr (.inr (some 113)))], [.inl (a_I M17 n0 12), .inr (.inr (some 149))])], 166, 0, la 0 [.inr (.inr (some 113)), .inr (.inr (some (aSB + 41)))], [], M17)) R17.1.1 rfl ?_
              refine nv_calli (r_eats hz R17.1 R17.2.1 (k := 41) (by decide)) (fun x18 M18 ⟨f18, S18, hx18⟩ => ?_)
              have R18 := Rd_x R17 f18 S18
              have G18 : a_I M18 (n0 + 9) (l_fr L) = v4 := (Fx_n0 hn f18 9 _).trans G17
              have F18 : a_I M18 (n0 + 8) (l_fr L) = v3 := (Fx_n0 hn f18 8 _).trans F17
              have hi17 : ((a_I M17 n0 12)).toInt = (l_fr L : Int) := R17.2.2.2.1.2.2.2.2.2.2.1.1
              refine nv_ast hct R18.1.1 rfl (show nvR.1 149 = 17 + 1 from rfl) (show nvR.2.1 149 = 8 + 1 from rfl) (inb_p hi17 (by omega)) ?_
              show wpS cd (nv_S (tauN n0) (d + 8, [], 178, 248, [(3, .inl k), (2, .inl v4), (1, .inl v3), (0, .inr (.inr (some 113)))], [], (s_I M18 (n0 + 12) (a_I M17 n0 12).toNatClampNeg (astf 2 x18)))) _
              have R19 := Rd_arr (j := 11) (k := (a_I M17 n0 12).toNatClampNeg) (v := (astf 2 x18)) rfl R18
              have G19 := (show a_I (s_I M18 (n0 + 12) (a_I M17 n0 12).toNatClampNeg (astf 2 x18)) (n0 + 9) (l_fr L) = v4 from (aI_nk (fun q => by omega)).trans G18)
              have F19 := (show a_I (s_I M18 (n0 + 12) (a_I M17 n0 12).toNatClampNeg (astf 2 x18)) (n0 + 8) (l_fr L) = v3 from (aI_nk (fun q => by omega)).trans F18)
              generalize hM19 : (s_I M18 (n0 + 12) (a_I M17 n0 12).toNatClampNeg (astf 2 x18)) = M19 at R19 G19 F19 ⊢
              refine nv_cut hct nvR 178 261 10 (S' := (d + 8, [], 178, 261, [(3, .inl k), (2, .inl v4), (1, .inl v3), (0, .inr (.inr (some 113)))], [], (s_I M19 n0 12 ((a_I M19 n0 12) + (1 : Int32))))) R19.1.1 rfl ?_
              have hi9 : (a_I M19 n0 12).toInt = (l_fr L : Int) := R19.2.2.2.1.2.2.2.2.2.2.1.1
              have hfl : 0 ≤ l_fl L + 1 := by
                rcases R.2.2.2.2.2.1 with ⟨_, e⟩ | ⟨_, _, _, e, _⟩
                · omega
                · omega
              have Rz := Rd_frm (c := a_I M19 n0 12 + 1) (v := m_val B lim (frm0 B lim L p)) (add_p hi9 (by omega) (by omega)) (by omega) ⟨by rw [F19]; exact h3.1, by omega, by omega⟩ (by rw [G19]; exact h4.2.1) R19
              have hm8 : frm8 B lim L p = m_eat B lim (txc 41) (m_eat B lim (txc 36) (.inl q)) := by unfold frm8 frm7; rw [hm]
              rw [hm8]
              exact nv_vret hct rfl ⟨rfl, Rd_F Rz⟩
          cases hm4 : frm4 B lim L p with
          | inr f =>
            have hm5 : frm5 B lim L p = .inr f := by
              unfold frm5 m_if; rw [hm4]
              cases nosn L (m_hs B lim (frm3 B lim L p)) <;> rfl
            rw [hm4] at R9
            have hk5 : ∀ q, frm5 B lim L p = .inl q → ∃ kk : Nat, k.toInt = (kk : Int) ∧ kk < (l_nm L).length ∧ 0 ≤ ((l_nm L).getD kk (0, 0)).2 := fun q e => by rw [hm5] at e; cases e
            rcases fd_bd (L := L) (w := (a_J M10 113 15).toInt) with hb | ⟨kk, hb1, hb2⟩
            · skip
              refine nv_ifc hct true rfl (ccT1 rfl (show ((-1 : Int32)).toInt = -1 from rfl) (hf.trans hb)) ?_
              refine nv_cut hct nvR 163 0 6 (S' := (d + 7, [(178, 137, [(3, .inl k), (2, .inl v4), (1, .inl v3), (0, .inr (.inr (some 113)))], [])], 163, 0, la 0 [.inr (.inr (some 113)), .inl (2 : Int32)], [], M10)) R9.1.1 rfl ?_
              refine nv_callv (r_wrong hz R9.1 R9.2.1 (kn := 2) rfl (by decide)) (fun M11 ⟨f11, S11⟩ => ?_)
              have R11 := Rd_x R9 f11 S11
              refine nv_cut hct nvR 178 137 3 (S' := (d + 8, [], 178, 137, [(3, .inl k), (2, .inl v4), (1, .inl v3), (0, .inr (.inr (some 113)))], [], M11)) R11.1.1 rfl ?_
              exact key5 M11 (by rw [hm5]; exact R11) hk5
            · skip
              have k1 : k.toInt = (kk : Int) := hf.trans hb1
              refine nv_ifc hct false rfl (ccF1 k1 (show ((-1 : Int32)).toInt = -1 from rfl) (by omega)) ?_
              refine nv_cut hct nvR 178 127 7 (S' := (d + 8, [], 178, 127, [(3, .inl k), (2, .inl v4), (1, .inl v3), (0, .inr (.inr (some 113)))], [.inl k, .inr (.inr (some 151))], M10)) R9.1.1 rfl ?_
              refine nv_ald hct R9.1.1 rfl (show nvR.1 151 = 15 + 1 from rfl) (show nvR.2.1 151 = 8 + 1 from rfl) (inb_p k1 (by omega)) ?_
              refine nv_cut hct nvR 178 129 4 (S' := (d + 8, [], 178, 129, [(3, .inl k), (2, .inl v4), (1, .inl v3), (0, .inr (.inr (some 113)))], [.inl (-1 : Int32), .inl (a_I M10 (n0 + 14) k.toNatClampNeg)], M10)) R9.1.1 rfl ?_
              by_cases hs : ((a_I M10 (n0 + 14) k.toNatClampNeg)).toInt = -1
              · skip
                refine nv_ifc hct false rfl (ccF5 rfl (show ((-1 : Int32)).toInt = -1 from rfl) hs) ?_
                refine nv_cut hct nvR 163 0 6 (S' := (d + 7, [(178, 137, [(3, .inl k), (2, .inl v4), (1, .inl v3), (0, .inr (.inr (some 113)))], [])], 163, 0, la 0 [.inr (.inr (some 113)), .inl (2 : Int32)], [], M10)) R9.1.1 rfl ?_
                refine nv_callv (r_wrong hz R9.1 R9.2.1 (kn := 2) rfl (by decide)) (fun M11 ⟨f11, S11⟩ => ?_)
                have R11 := Rd_x R9 f11 S11
                refine nv_cut hct nvR 178 137 3 (S' := (d + 8, [], 178, 137, [(3, .inl k), (2, .inl v4), (1, .inl v3), (0, .inr (.inr (some 113)))], [], M11)) R11.1.1 rfl ?_
                exact key5 M11 (by rw [hm5]; exact R11) hk5
              · skip
                refine nv_ifc hct true rfl (ccT5 rfl (show ((-1 : Int32)).toInt = -1 from rfl) hs) ?_
                exact key5 M10 (by rw [hm5]; exact R9) hk5
          | inl q =>
            obtain ⟨e3, hkq⟩ := name_1 (show m_if B lim 1 (!m_name B lim (frm3 B lim L p)) (frm3 B lim L p) = .inl q from hm4)
            rw [hm4] at R9
            rw [word_h R9.2.1 hkq, ← e3] at hf
            rcases fd_bd (L := L) (w := m_hs B lim (frm3 B lim L p)) with hb | ⟨kk, hb1, hb2⟩
            · skip
              have hns : nosn L (m_hs B lim (frm3 B lim L p)) = true := by unfold nosn; rw [decide_eq_true hb]; rfl
              refine nv_ifc hct true rfl (ccT1 rfl (show ((-1 : Int32)).toInt = -1 from rfl) (hf.trans hb)) ?_
              refine nv_cut hct nvR 163 0 6 (S' := (d + 7, [(178, 137, [(3, .inl k), (2, .inl v4), (1, .inl v3), (0, .inr (.inr (some 113)))], [])], 163, 0, la 0 [.inr (.inr (some 113)), .inl (2 : Int32)], [], M10)) R9.1.1 rfl ?_
              refine nv_callv (r_wrong hz R9.1 R9.2.1 (kn := 2) rfl (by decide)) (fun M11 ⟨f11, S11⟩ => ?_)
              have R11 := Rd_x R9 f11 S11
              refine nv_cut hct nvR 178 137 3 (S' := (d + 8, [], 178, 137, [(3, .inl k), (2, .inl v4), (1, .inl v3), (0, .inr (.inr (some 113)))], [], M11)) R11.1.1 rfl ?_
              exact key5 M11 (by unfold frm5 m_if; rw [hns, hm4]; exact R11) (fun q e => by unfold frm5 m_if at e; rw [hns, hm4] at e; cases e)
            · skip
              have k1 : k.toInt = (kk : Int) := hf.trans hb1
              have hsn := R9.2.2.2.2.1 kk hb2
              refine nv_ifc hct false rfl (ccF1 k1 (show ((-1 : Int32)).toInt = -1 from rfl) (by omega)) ?_
              refine nv_cut hct nvR 178 127 7 (S' := (d + 8, [], 178, 127, [(3, .inl k), (2, .inl v4), (1, .inl v3), (0, .inr (.inr (some 113)))], [.inl k, .inr (.inr (some 151))], M10)) R9.1.1 rfl ?_
              refine nv_ald hct R9.1.1 rfl (show nvR.1 151 = 15 + 1 from rfl) (show nvR.2.1 151 = 8 + 1 from rfl) (inb_p k1 (by omega)) ?_
              rw [tnc k1]
              refine nv_cut hct nvR 178 129 4 (S' := (d + 8, [], 178, 129, [(3, .inl k), (2, .inl v4), (1, .inl v3), (0, .inr (.inr (some 113)))], [.inl (-1 : Int32), .inl (a_I M10 (n0 + 14) kk)], M10)) R9.1.1 rfl ?_
              have hnd : decide (l_fd L (m_hs B lim (frm3 B lim L p)) = -1) = false := decide_eq_false (by omega)
              by_cases hs : ((l_nm L).getD kk (0, 0)).2 = -1
              · skip
                refine nv_ifc hct false rfl (ccF5 hsn.2.1 (show ((-1 : Int32)).toInt = -1 from rfl) hs) ?_
                have hns : nosn L (m_hs B lim (frm3 B lim L p)) = true := by unfold nosn; rw [hnd, hb1, Int.toNat_natCast, decide_eq_true hs]; rfl
                refine nv_cut hct nvR 163 0 6 (S' := (d + 7, [(178, 137, [(3, .inl k), (2, .inl v4), (1, .inl v3), (0, .inr (.inr (some 113)))], [])], 163, 0, la 0 [.inr (.inr (some 113)), .inl (2 : Int32)], [], M10)) R9.1.1 rfl ?_
                refine nv_callv (r_wrong hz R9.1 R9.2.1 (kn := 2) rfl (by decide)) (fun M11 ⟨f11, S11⟩ => ?_)
                have R11 := Rd_x R9 f11 S11
                refine nv_cut hct nvR 178 137 3 (S' := (d + 8, [], 178, 137, [(3, .inl k), (2, .inl v4), (1, .inl v3), (0, .inr (.inr (some 113)))], [], M11)) R11.1.1 rfl ?_
                exact key5 M11 (by unfold frm5 m_if; rw [hns, hm4]; exact R11) (fun q e => by unfold frm5 m_if at e; rw [hns, hm4] at e; cases e)
              · skip
                refine nv_ifc hct true rfl (ccT5 hsn.2.1 (show ((-1 : Int32)).toInt = -1 from rfl) hs) ?_
                have hns : nosn L (m_hs B lim (frm3 B lim L p)) = false := by unfold nosn; rw [hnd, hb1, Int.toNat_natCast, decide_eq_false hs]; rfl
                exact key5 M10 (by unfold frm5 m_if; rw [hns, hm4]; exact R9) (fun q e => ⟨kk, k1, hb2, by omega⟩)
        cases hc : m_name B lim (frm3 B lim L p) with
        | true =>
          refine nv_if hct true rfl (zcT5 (show x8.toInt = 1 by rw [hx8, hc]; rfl) (by decide)) ?_
          exact key4 M8 (by unfold frm4 m_if; rw [hc]; exact R7)
        | false =>
          refine nv_if hct false rfl (zcF5 (show x8.toInt = 0 by rw [hx8, hc]; rfl) rfl) ?_
          refine nv_cut hct nvR 163 0 6 (S' := (d + 7, [(178, 102, [(2, .inl v4), (1, .inl v3), (0, .inr (.inr (some 113)))], [])], 163, 0, la 0 [.inr (.inr (some 113)), .inl (1 : Int32)], [], M8)) R7.1.1 rfl ?_
          refine nv_callv (r_wrong hz R7.1 R7.2.1 (kn := 1) rfl (by decide)) (fun M9 ⟨f9, S9⟩ => ?_)
          have R9 := Rd_x R7 f9 S9
          refine nv_cut hct nvR 178 102 3 (S' := (d + 8, [], 178, 102, [(2, .inl v4), (1, .inl v3), (0, .inr (.inr (some 113)))], [], M9)) R9.1.1 rfl ?_
          exact key4 M9 (by unfold frm4 m_if; rw [hc]; exact R9)
      cases hc : m_is B lim (txc 37) (frm2 B lim L p) with
      | true =>
        refine nv_if hct true rfl (zcT5 (show x5.toInt = 1 by rw [hx5, hc]; rfl) (by decide)) ?_
        exact key3 M5 (by unfold m_if; rw [hc]; exact R4)
      | false =>
        refine nv_if hct false rfl (zcF5 (show x5.toInt = 0 by rw [hx5, hc]; rfl) rfl) ?_
        refine nv_cut hct nvR 163 0 6 (S' := (d + 7, [(178, 86, [(2, .inl v4), (1, .inl v3), (0, .inr (.inr (some 113)))], [])], 163, 0, la 0 [.inr (.inr (some 113)), .inl (1 : Int32)], [], M5)) R4.1.1 rfl ?_
        refine nv_callv (r_wrong hz R4.1 R4.2.1 (kn := 1) rfl (by decide)) (fun M6 ⟨f6, S6⟩ => ?_)
        have R6 := Rd_x R4 f6 S6
        refine nv_cut hct nvR 178 86 3 (S' := (d + 8, [], 178, 86, [(2, .inl v4), (1, .inl v3), (0, .inr (.inr (some 113)))], [], M6)) R6.1.1 rfl ?_
        exact key3 M6 (by unfold m_if; rw [hc]; exact R6)
    rcases R2.2.2.2.2.2.1 with ⟨z1, z2⟩ | ⟨z1, _, z3, z4, z5⟩
    · skip
      refine nv_if hct false rfl (zcF5 hfr2 (by omega)) ?_
      refine nv_cut hct nvR 167 0 7 (S' := (d + 7, [(178, 60, [(0, .inr (.inr (some 113)))], [])], 167, 0, la 0 [.inr (.inr (some 113)), .inl (0 : Int32), .inl (29 : Int32)], [], M2)) R2.1.1 rfl ?_
      refine nv_calli (r_readWhole hz R2.1 R2.2.1) (fun v3 M3 ⟨f3, S3, h3⟩ => ?_)
      have hlo : (0 : Int32).toInt = l_fl L + 1 := by rw [z2]; rfl
      rw [hlo] at S3 h3
      exact key2 M3 v3 (Rd_x R2 f3 S3) h3
    · skip
      refine nv_if hct true rfl (zcT5 hfr2 (by omega)) ?_
      refine nv_cut hct nvR 178 52 11 (S' := (d + 8, [], 178, 52, [(0, .inr (.inr (some 113)))], [.inl ((a_I M2 n0 12) - (1 : Int32)), .inr (.inr (some 145)), .inr (.inr (some 113))], M2)) R2.1.1 rfl ?_
      have hix : (a_I M2 n0 12 - 1).toInt = ((l_fr L - 1 : Nat) : Int) := by
        rw [sub_i]
        · rw [hfr2]; show (l_fr L : Int) - 1 = _; omega
        · rw [hfr2]; show (-2147483648 : Int) ≤ (l_fr L : Int) - 1; omega
        · rw [hfr2]; show (l_fr L : Int) - 1 ≤ (2147483647 : Int); omega
      refine nv_ald hct R2.1.1 rfl (show nvR.1 145 = 15 + 1 from rfl) (show nvR.2.1 145 = 8 + 1 from rfl) (inb_p hix (by omega)) ?_
      rw [tnc hix]
      refine nv_cut hct nvR 167 0 7 (S' := (d + 7, [(178, 60, [(0, .inr (.inr (some 113)))], [])], 167, 0, la 0 [.inr (.inr (some 113)), .inl ((a_I M2 (n0 + 8) (l_fr L - 1)) + (1 : Int32)), .inl (29 : Int32)], [], M2)) R2.1.1 rfl ?_
      refine nv_calli (r_readWhole hz R2.1 R2.2.1) (fun v3 M3 ⟨f3, S3, h3⟩ => ?_)
      have hlo : (a_I M2 (n0 + 8) (l_fr L - 1) + 1).toInt = l_fl L + 1 := add_p z3 (by omega) (by omega)
      rw [hlo] at S3 h3
      exact key2 M3 v3 (Rd_x R2 f3 S3) h3
  by_cases hc : l_fr L = 8
  · skip
    refine nv_ifc hct false rfl (ccF5 hfr.1 (show ((8 : Int32)).toInt = 8 from rfl) (by omega)) ?_
    refine nv_cut hct nvR 163 0 6 (S' := (d + 7, [(178, 17, [(0, .inr (.inr (some 113)))], [])], 163, 0, la 0 [.inr (.inr (some 113)), .inl (5 : Int32)], [], M)) R.1.1 rfl ?_
    refine nv_callv (r_wrong hz R.1 R.2.1 (kn := 5) rfl (by decide)) (fun M1 ⟨f1, S1⟩ => ?_)
    have R1 := Rd_x R f1 S1
    refine nv_cut hct nvR 178 17 3 (S' := (d + 8, [], 178, 17, [(0, .inr (.inr (some 113)))], [], M1)) R1.1.1 rfl ?_
    exact key M1 (by unfold m_if; rw [decide_eq_true hc]; exact R1)
  · skip
    refine nv_ifc hct true rfl (ccT5 hfr.1 (show ((8 : Int32)).toInt = 8 from rfl) (by omega)) ?_
    exact key M (by unfold m_if; rw [decide_eq_false hc]; exact R)

/-! The reference's reader, by modes: printed by wip/gen/refp2.py -/
theorem lgc_0 {x y : Int64} : ((lg_cmp x y).toInt ≠ 0) ↔ x ≠ y := by
  unfold lg_cmp
  constructor
  · intro h e
    subst e
    rw [if_neg (fun q => by have := Int64.lt_iff_toInt_lt.mp q; omega), if_pos rfl] at h
    exact h rfl
  · intro h
    by_cases g : x > y
    · rw [if_pos g]; decide
    · rw [if_neg g, if_neg h]; decide
def tg (k : Nat) (i : Nat) : Int := (((txc k).getD i 0 : Nat) : Int)
theorem tg_lt {k j : Nat} (hk : k < 52) (hj : j < (txc k).length) : isLt (tg k (0 + j)) = true := by
  obtain ⟨b1, b2⟩ := txc_bd ⟨k, hk⟩
  have := b2 ((txc k).getD j 0) (by
    rw [List.getD_eq_getElem?_getD, List.getElem?_eq_getElem hj]
    exact List.getElem_mem hj)
  apply isLt_i
  unfold tg
  rw [Nat.zero_add]
  omega
set_option maxHeartbeats 1000000 in
theorem t_wof {cd : Nat → Nat → Option aI} {z : Bool} (hz : ∀ m p i, cd0 z m p = some i → cd m p = some i) {k : Nat} (hk : k < 52) {d : Nat} {M : aM} : ∀ (n : Nat) {j : Nat} {i : Int32} {v : Int64}, (txc k).length - j = n → j ≤ (txc k).length → i.toInt = (j : Int) → v.toInt = hsh (tg k) 0 j → wpS cd (d + 4, [], 161, 4, [(3, .inl i), (1, .inr (.inl v)), (0, tV k)], [], M) (fun r M' => ∃ w, r = some (.inr (.inl w)) ∧ M' = M ∧ w.toInt = hsh (tg k) 0 (txc k).length) := by
  obtain ⟨b1, b2⟩ := txc_bd ⟨k, hk⟩
  simp only at b1 b2
  have hn9 : (Int32.ofNat (txc k).length).toInt = ((txc k).length : Int) := Int32.toInt_ofNat_of_lt (by show (txc k).length < 2147483648; omega)
  intro n
  induction n with
  | zero =>
    intro j i v h1 h2 hi hv
    refine cutZ (hzs hz) (sm := 161) (sp := 6) (n := 9) (S' := (d + 4, [], 161, 6, [(3, .inl i), (1, .inr (.inl v)), (0, tV k)], [tV k, .inl i], M)) rfl ?_
    refine wp_call (hz _ _ _ rfl) (callt0 hk (show (1 : Nat) ≤ 8 by decide)) ?_
    refine wp_mono (t_len hz hk) (fun r M' h => ?_)
    obtain ⟨e1, e2⟩ := h
    subst e1
    subst e2
    show wpS cd (d + 4, [], 161, 9, [(3, .inl i), (1, .inr (.inl v)), (0, tV k)], [.inl (Int32.ofNat (txc k).length), .inl i], M') _
    refine ifc_S (g := fun x y => decide (y ≤ x)) (t := 36) (nx := 12) (x := i) (y := Int32.ofNat (txc k).length) (b := true) (hz _ _ _ rfl) rfl (ccT4 hi hn9 (by omega)) ?_
    refine cutZ (hzs hz) (sm := 161) (sp := 37) (n := 9) (fs := []) (S' := (d + 4, [], 161, 37, [(3, .inl i), (1, .inr (.inl v)), (0, tV k)], [.inr (.inl v)], M')) rfl ?_
    exact wp_ret (hz _ _ _ rfl) rfl ⟨v, rfl, rfl, by rw [hv, show j = (txc k).length by omega]⟩
  | succ n ih =>
    intro j i v h1 h2 hi hv
    refine cutZ (hzs hz) (sm := 161) (sp := 6) (n := 9) (S' := (d + 4, [], 161, 6, [(3, .inl i), (1, .inr (.inl v)), (0, tV k)], [tV k, .inl i], M)) rfl ?_
    refine wp_call (hz _ _ _ rfl) (callt0 hk (show (1 : Nat) ≤ 8 by decide)) ?_
    refine wp_mono (t_len hz hk) (fun r M' h => ?_)
    obtain ⟨e1, e2⟩ := h
    subst e1
    subst e2
    show wpS cd (d + 4, [], 161, 9, [(3, .inl i), (1, .inr (.inl v)), (0, tV k)], [.inl (Int32.ofNat (txc k).length), .inl i], M') _
    refine ifc_S (g := fun x y => decide (y ≤ x)) (t := 36) (nx := 12) (x := i) (y := Int32.ofNat (txc k).length) (b := false) (hz _ _ _ rfl) rfl (ccF4 hi hn9 (by omega)) ?_
    refine cutZ (hzs hz) (sm := 161) (sp := 19) (n := 9) (fs := []) (S' := (d + 4, [], 161, 19, [(3, .inl i), (1, .inr (.inl v)), (0, tV k)], [.inl i, tV k, .inr (.inl ((32 : Int64) * v))], M')) rfl ?_
    refine wp_call (hz _ _ _ rfl) (callt1 hk (show (2 : Nat) ≤ 8 by decide)) ?_
    refine wp_mono (t_chr hz hk hi (by omega)) (fun r M' h => ?_)
    obtain ⟨e1, e2⟩ := h
    subst e1
    subst e2
    show wpS cd (d + 4, [], 161, 22, [(3, .inl i), (1, .inr (.inl v)), (0, tV k)], [.inl (Int32.ofNat ((txc k).getD j 0)), .inr (.inl ((32 : Int64) * v))], M') _
    refine cutZ (hzs hz) (sm := 161) (sp := 4) (n := 12) (fs := []) (S' := (d + 4, [], 161, 4, [(3, .inl (i + 1)), (1, .inr (.inl ((32 : Int64) * v + ((Int32.ofNat ((txc k).getD j 0)) - 97 + 1).toInt64))), (0, tV k)], [], M')) rfl ?_
    have hc := b2 ((txc k).getD j 0) (by
      rw [List.getD_eq_getElem?_getD, List.getElem?_eq_getElem (show j < (txc k).length by omega)]
      exact List.getElem_mem _)
    have hcn : (Int32.ofNat ((txc k).getD j 0)).toInt = tg k (0 + j) := by
      rw [Nat.zero_add]
      exact Int32.toInt_ofNat_of_lt (by show (txc k).getD j 0 < 2147483648; omega)
    have hb := hsh_8 (g := tg k) (s := 0) (k := j) (by omega) (fun q hq => tg_lt hk (by omega))
    have hl := isLt_T (tg_lt hk (show j < (txc k).length by omega))
    exact ih (j := j + 1) (by omega) (by omega) (by rw [add_p hi (by omega) (by omega)]; omega) (i64_st hv hcn hb.1 hb.2 (by omega) (by omega))
theorem nv_tV {τ : Nat → Nat} {k : Nat} : nv_v τ (tV k) = tV k := by
  show Sum.inr (Sum.inr (some (nv_s τ (aSB + k)))) = _
  unfold nv_s
  rw [show Nat.ble aSB (aSB + k) = true from Nat.ble_eq.mpr (Nat.le_add_right _ _), Bool.or_true]
  rfl
theorem t_wordOf {cd : Nat → Nat → Option aI} {z : Bool} (hz : ∀ m p i, cd0 z m p = some i → cd m p = some i) {τ : Nat → Nat} {k : Nat} (hk : k < 52) {d : Nat} {M : aM} : wpS cd (d + 4, [], 161, 0, nv_l τ (la 0 [tV k]), [], M) (fun r M' => ∃ w, r = some (.inr (.inl w)) ∧ M' = M ∧ w.toInt = hsh (tg k) 0 (txc k).length) := by
  rw [show nv_l τ (la 0 [tV k]) = la 0 [tV k] by show [((0 : Nat), nv_v τ (tV k))] = _; rw [nv_tV]; rfl]
  refine cutZ (hzs hz) (sm := 161) (sp := 4) (n := 9) (S' := (d + 4, [], 161, 4, [(3, .inl 0), (1, .inr (.inl 0)), (0, tV k)], [], M)) rfl ?_
  exact t_wof hz hk _ rfl (Nat.zero_le _) rfl rfl
/-- how the reference's reading stands -/
def StR (B : Nat → Int) (lim : Nat) (M : aM) (m : pmd) : Prop := match m with
  | .inl p => p ≤ lim ∧ TkR B lim M p ∧ a_I M 113 13 = 0
  | .inr f => a_I M 113 9 = 5 ∧ (a_I M 113 13).toInt = (f.1 : Int) ∧ (a_I M 113 14).toInt = (f.2 : Int) ∧ 1 ≤ f.1
theorem knd_1 {B : Nat → Int} {lim p : Nat} (h : knd B lim p = 1) : nxt B lim p = ewd B lim (skp B lim p) ∧ nxt B lim p - skp B lim p ≤ 8 ∧ ∀ j, j < nxt B lim p - skp B lim p → isLt (gt9 B lim (skp B lim p + j)) = true := by
  unfold knd at h
  cases hb : isLt (gt9 B lim (skp B lim p)) with
  | true =>
    rw [hb] at h
    have e : nxt B lim p = ewd B lim (skp B lim p) := by unfold nxt; rw [hb]; rfl
    simp only [cond_true] at h
    split at h
    · rename_i h8
      refine ⟨e, by rw [e]; exact h8, fun j hj => ?_⟩
      rw [e] at hj
      exact fwd_all (P := fun k => isLt (gt9 B lim k)) (p := skp B lim p) (by omega) (by unfold ewd at hj; omega)
    · cases h
  | false =>
    rw [hb] at h
    simp only [cond_false] at h
    cases hd : isDg (gt9 B lim (skp B lim p)) with
    | true => rw [hd] at h; simp only [cond_true] at h; split at h <;> cases h
    | false =>
      rw [hd] at h
      simp only [cond_false] at h
      split at h
      · cases h
      · split at h <;> cases h
theorem knd_2 {B : Nat → Int} {lim p : Nat} (h : knd B lim p = 2) : nxt B lim p = edg B lim (skp B lim p) ∧ nxt B lim p - skp B lim p ≤ 3 ∧ ∀ j, j < nxt B lim p - skp B lim p → isDg (gt9 B lim (skp B lim p + j)) = true := by
  unfold knd at h
  cases hb : isLt (gt9 B lim (skp B lim p)) with
  | true => rw [hb] at h; simp only [cond_true] at h; split at h <;> cases h
  | false =>
    rw [hb] at h
    simp only [cond_false] at h
    cases hd : isDg (gt9 B lim (skp B lim p)) with
    | true =>
      rw [hd] at h
      simp only [cond_true] at h
      have e : nxt B lim p = edg B lim (skp B lim p) := by unfold nxt; rw [hb, hd]; rfl
      split at h
      · rename_i h8
        refine ⟨e, by rw [e]; exact h8, fun j hj => ?_⟩
        rw [e] at hj
        exact fwd_all (P := fun k => isDg (gt9 B lim k)) (p := skp B lim p) (by omega) (by unfold edg at hj; omega)
      · cases h
    | false =>
      rw [hd] at h
      simp only [cond_false] at h
      split at h
      · cases h
      · split at h <;> cases h
theorem nxt_le {B : Nat → Int} {lim p : Nat} (h : p ≤ lim) : nxt B lim p ≤ lim := by
  have hs := skp_le (B := B) h
  unfold nxt
  cases hb : isLt (gt9 B lim (skp B lim p)) with
  | true => exact ewd_le hs
  | false =>
    cases hd : isDg (gt9 B lim (skp B lim p)) with
    | true => exact edg_le hs
    | false =>
      simp only [cond_false]
      split
      · exact hs
      · rename_i hc
        have := gt9_in hc
        omega
theorem isW_h {B : Nat → Int} {lim p k : Nat} (hk : k < 52) (h : knd B lim p = 1) : isW B lim (txc k) p = decide (hsh (gt9 B lim) (skp B lim p) (nxt B lim p - skp B lim p) = hsh (tg k) 0 (txc k).length) := by
  obtain ⟨h1, h2, h3⟩ := knd_1 h
  unfold isW
  rw [h, Nat.beq_refl, Bool.true_and]
  by_cases e : hsh (gt9 B lim) (skp B lim p) (nxt B lim p - skp B lim p) = hsh (tg k) 0 (txc k).length
  · rw [decide_eq_true e]
    obtain ⟨q1, q2⟩ := hsh_inj h3 (fun j hj => tg_lt hk hj) e
    rw [q1, Nat.beq_refl, Bool.true_and]
    exact List.all_eq_true.mpr (fun i hi => decide_eq_true (by
      have := q2 i (by rw [q1]; exact List.mem_range.mp hi)
      rw [this, Nat.zero_add]
      rfl))
  · rw [decide_eq_false e]
    cases hb : (Nat.beq (nxt B lim p - skp B lim p) (txc k).length && (List.range (txc k).length).all (fun i => decide (gt9 B lim (skp B lim p + i) = ((txc k).getD i 0 : Int)))) with
    | false => rfl
    | true =>
      exfalso
      obtain ⟨b1, b2⟩ := (Bool.and_eq_true _ _).mp hb
      apply e
      rw [nbT b1]
      exact hsh_cong (fun j hj => by
        have := of_decide_eq_true (List.all_eq_true.mp b2 j (List.mem_range.mpr hj))
        rw [this, Nat.zero_add]
        rfl)
theorem isW_n {B : Nat → Int} {lim p : Nat} {w : List Nat} (h : knd B lim p ≠ 1) : isW B lim w p = false := by
  unfold isW
  rw [nbF h]
  rfl
/-- the sort in each mode -/
theorem St_5 {B : Nat → Int} {lim : Nat} {M : aM} {p : Nat} (h : StR B lim M (.inl p)) : (a_I M 113 9).toInt ≠ 5 := by
  obtain ⟨_, ⟨_, h⟩, _⟩ := h
  rcases h with ⟨_, h⟩ | ⟨_, h, _⟩ | ⟨_, h, _⟩ | ⟨_, h, _⟩ | ⟨_, h | ⟨h, _⟩⟩ <;> (rw [h]; decide)
theorem St_s {B : Nat → Int} {lim : Nat} {M : aM} {p : Nat} (h : StR B lim M (.inl p)) : ((a_I M 113 9).toInt = 2 ↔ knd B lim p = 1) ∧ ((a_I M 113 9).toInt = 3 ↔ knd B lim p = 2) ∧ ((a_I M 113 9).toInt = 1 ↔ knd B lim p = 0) ∧ (((a_I M 113 9).toInt = 4 ∧ (a_I M 113 11).toInt = 59) ↔ knd B lim p = 3) := by
  obtain ⟨_, ⟨_, h⟩, _⟩ := h
  rcases h with ⟨k, h⟩ | ⟨k, h, _⟩ | ⟨k, h, _⟩ | ⟨k, h, h2, _⟩ | ⟨k, h | ⟨h, h2⟩⟩
  · rw [h, k]; exact ⟨by decide, by decide, by decide, fun q => absurd q.1 (by decide), fun q => absurd q (by decide)⟩
  · rw [h, k]; exact ⟨by decide, by decide, by decide, fun q => absurd q.1 (by decide), fun q => absurd q (by decide)⟩
  · rw [h, k]; exact ⟨by decide, by decide, by decide, fun q => absurd q.1 (by decide), fun q => absurd q (by decide)⟩
  · rw [h, k, h2]; decide
  · rw [h, k]; exact ⟨by decide, by decide, by decide, fun q => absurd q.1 (by decide), fun q => absurd q (by decide)⟩
  · rw [h, k, h2]; decide
set_option maxHeartbeats 4000000 in
theorem r_isWord {cd : Nat → Nat → Option aI} {z : Bool} (hz : ∀ m p i, cd0 z m p = some i → cd m p = some i) {τ : Nat → Nat} {B : Nat → Int} {lim : Nat} {M : aM} (hE : EnR τ B lim M) {m : pmd} (hS : StR B lim M m) {k : Nat} (hk : k < 52) {d : Nat} : wpS cd (d + 5, [], 165, 0, nv_l τ (la 0 [.inr (.inr (some 113)), .inr (.inr (some (aSB + k)))]), [], M) (fun r M' => ∃ x, r = some (.inl x) ∧ M' = M ∧ x = (bif m_is B lim (txc k) m then 1 else 0)) := by
  show wpS cd (nv_S τ (d + 5, [], 165, 0, la 0 [.inr (.inr (some 113)), .inr (.inr (some (aSB + k)))], [], M)) _
  have hct := hc_of hz
  refine nv_cut hct nvR 165 5 6 (S' := (d + 5, [], 165, 5, [(0, .inr (.inr (some 113))), (1, .inr (.inr (some (aSB + k))))], [.inl (2 : Int32), .inl (a_I M 113 9)], M)) hE.1 rfl ?_
  rcases m with p | f
  · skip
    by_cases hk1 : knd B lim p = 1
    · skip
      have hs := (St_s hS).1.mpr hk1
      refine nv_ifc hct false rfl (ccF5 hs (show ((2 : Int32)).toInt = 2 from rfl) rfl) ?_
      refine nv_cut hct nvR 161 0 7 (S' := (d + 4, [(165, 16, [(0, .inr (.inr (some 113))), (1, .inr (.inr (some (aSB + k))))], [.inr (.inl (a_J M 113 15))])], 161, 0, la 0 [.inr (.inr (some (aSB + k)))], [], M)) hE.1 rfl ?_
      refine nv_call (t_wordOf hz hk) (fun r M1 h => ?_)
      obtain ⟨w, rfl, rfl, hw⟩ := h
      refine ⟨some (.inr (.inl w)), rfl, ?_⟩
      refine nv_z hz (lo' := [(0, .inr (.inr (some 113))), (1, .inr (.inr (some (aSB + k))))]) (st' := [.inl (lg_cmp (a_J M1 113 15) w)]) (M' := M1) rfl rfl ?_
      have hJ : (a_J M1 113 15).toInt = hsh (gt9 B lim) (skp B lim p) (nxt B lim p - skp B lim p) := by
        obtain ⟨_, ⟨_, h⟩, _⟩ := hS
        rcases h with ⟨k, h⟩ | ⟨k, h, _, h3⟩ | ⟨k, h, _⟩ | ⟨k, h, h2, _⟩ | ⟨k, h | ⟨h, h2⟩⟩
        · omega
        · exact h3
        all_goals omega
      have hm : m_is B lim (txc k) (.inl p) = isW B lim (txc k) p := rfl
      rw [hm, isW_h hk hk1]
      by_cases e : a_J M1 113 15 = w
      · skip
        refine nv_if hct false rfl (zcF5 rfl (by rw [e]; exact Classical.not_not.mp (fun q => (lgc_0.mp q) rfl))) ?_
        refine nv_cut hct nvR 165 25 5 (S' := (d + 5, [], 165, 25, [(0, .inr (.inr (some 113))), (1, .inr (.inr (some (aSB + k))))], [.inl (1 : Int32)], M1)) hE.1 rfl ?_
        refine nv_iret hct rfl rfl ⟨_, rfl, rfl, ?_⟩
        rw [decide_eq_true (by rw [← hJ, ← hw, e])]; rfl
      · skip
        refine nv_if hct true rfl (zcT5 rfl (lgc_0.mpr e)) ?_
        refine nv_cut hct nvR 165 25 4 (S' := (d + 5, [], 165, 25, [(0, .inr (.inr (some 113))), (1, .inr (.inr (some (aSB + k))))], [.inl (0 : Int32)], M1)) hE.1 rfl ?_
        refine nv_iret hct rfl rfl ⟨_, rfl, rfl, ?_⟩
        rw [decide_eq_false (fun q => e (Int64.toInt_inj.mp (by rw [hJ, hw]; exact q)))]; rfl
    · skip
      refine nv_ifc hct true rfl (ccT5 rfl (show ((2 : Int32)).toInt = 2 from rfl) (fun q => hk1 ((St_s hS).1.mp q))) ?_
      refine nv_cut hct nvR 165 25 4 (S' := (d + 5, [], 165, 25, [(0, .inr (.inr (some 113))), (1, .inr (.inr (some (aSB + k))))], [.inl (0 : Int32)], M)) hE.1 rfl ?_
      refine nv_iret hct rfl rfl ⟨_, rfl, rfl, ?_⟩
      show _ = (bif isW B lim (txc k) p then 1 else 0); rw [isW_n hk1]; rfl
  · skip
    refine nv_ifc hct true rfl (ccT5 rfl (show ((2 : Int32)).toInt = 2 from rfl) (by rw [hS.1]; decide)) ?_
    refine nv_cut hct nvR 165 25 4 (S' := (d + 5, [], 165, 25, [(0, .inr (.inr (some 113))), (1, .inr (.inr (some (aSB + k))))], [.inl (0 : Int32)], M)) hE.1 rfl ?_
    exact nv_iret hct rfl rfl ⟨_, rfl, rfl, rfl⟩
set_option maxHeartbeats 4000000 in
theorem r_wrong {cd : Nat → Nat → Option aI} {z : Bool} (hz : ∀ m p i, cd0 z m p = some i → cd m p = some i) {τ : Nat → Nat} {B : Nat → Int} {lim : Nat} {M : aM} (hE : EnR τ B lim M) {m : pmd} (hS : StR B lim M m) {k : Int32} {kn : Nat} (hk : k.toInt = (kn : Int)) (hk1 : 1 ≤ kn) {d : Nat} : wpS cd (d + 1, [], 163, 0, nv_l τ (la 0 [.inr (.inr (some 113)), .inl k]), [], M) (fun r M' => r = none ∧ FrX [8, 9, 10, 11, 12, 13, 14] M M' ∧ StR B lim M' (m_bad B lim kn m)) := by
  show wpS cd (nv_S τ (d + 1, [], 163, 0, la 0 [.inr (.inr (some 113)), .inl k], [], M)) _
  have hct := hc_of hz
  refine nv_cut hct nvR 164 5 11 (S' := (d, [(163, 9, [(0, .inr (.inr (some 113))), (1, .inl k)], [])], 164, 5, [(0, .inr (.inr (some 113))), (1, .inl k), (2, .inl (a_I M 113 10))], [.inl (5 : Int32), .inl (a_I M 113 9)], M)) hE.1 rfl ?_
  rcases m with p | f
  · skip
    refine nv_ifc hct true rfl (ccT5 rfl (show ((5 : Int32)).toInt = 5 from rfl) (St_5 hS)) ?_
    refine nv_cut hct nvR 163 9 13 (S' := (d + 1, [], 163, 9, [(0, .inr (.inr (some 113))), (1, .inl k)], [], (s_I (s_I (s_I M 113 13 k) 113 14 (a_I M 113 10)) 113 9 (5 : Int32)))) hE.1 rfl ?_
    exact nv_vret hct rfl ⟨rfl, Fx_s (by decide) (Fx_s (by decide) (Fx_s (by decide) Fx_rf)), rfl, hk, hS.2.1.1, hk1⟩
  · skip
    refine nv_ifc hct false rfl (ccF5 rfl (show ((5 : Int32)).toInt = 5 from rfl) (by rw [hS.1]; rfl)) ?_
    refine nv_cut hct nvR 163 9 4 (S' := (d + 1, [], 163, 9, [(0, .inr (.inr (some 113))), (1, .inl k)], [], M)) hE.1 rfl ?_
    exact nv_vret hct rfl ⟨rfl, Fx_rf, hS⟩
theorem TkR_13 {B : Nat → Int} {lim : Nat} {M M' : aM} {l : List Nat} (h : FrX l M M') (hl : 13 ∉ l) (h0 : a_I M 113 13 = 0) : a_I M' 113 13 = 0 := by rw [Fx_I h hl]; exact h0
/-- on behind a token that was taken -/
theorem r_adv {cd : Nat → Nat → Option aI} {z : Bool} (hz : ∀ m p i, cd0 z m p = some i → cd m p = some i) {τ : Nat → Nat} {B : Nat → Int} {lim : Nat} {M : aM} (hE : EnR τ B lim M) {m : pmd} (hS : StR B lim M m) (hg : ∀ p, m = .inl p → knd B lim p = 1 ∨ knd B lim p = 2 ∨ knd B lim p = 3) {d : Nat} : wpS cd (d + 1, [], 162, 0, nv_l τ (la 0 [.inr (.inr (some 113))]), [], M) (fun r M' => r = none ∧ FrX [8, 9, 10, 11, 12, 13, 14] M M' ∧ StR B lim M' (m_adv B lim m)) := by
  rcases m with p | f
  · have hat : (a_I M 113 8).toInt = (nxt B lim p : Int) := by
      obtain ⟨_, ⟨_, h⟩, _⟩ := hS
      have := hg p rfl
      rcases h with ⟨k, h⟩ | ⟨k, h, h3, _⟩ | ⟨k, h, h3, _⟩ | ⟨k, h, h2, h3⟩ | ⟨k, h | ⟨h, h2⟩⟩
      · omega
      · exact h3
      · exact h3
      · exact h3
      · omega
      · omega
    refine wpS_mono (r_goesOn hz hE (nxt_le hS.1) hat (St_5 hS)) (fun r M' h => ?_)
    exact ⟨h.1, Fx_up h.2.1 (by decide), nxt_le hS.1, h.2.2, TkR_13 (B := B) (lim := lim) h.2.1 (by decide) hS.2.2⟩
  · refine wpS_mono (r_over hz hE (by rw [hS.1]; rfl)) (fun r M' h => ?_)
    obtain ⟨h1, h2⟩ := h
    subst h2
    exact ⟨h1, Fx_rf, hS⟩
set_option maxHeartbeats 4000000 in
theorem r_in {cd : Nat → Nat → Option aI} {z : Bool} (hz : ∀ m p i, cd0 z m p = some i → cd m p = some i) {τ : Nat → Nat} {B : Nat → Int} {lim : Nat} {M : aM} (hE : EnR τ B lim M) {x lo hi : Int32} {d : Nat} : wpS cd (d, [], 156, 0, nv_l τ (la 0 [.inl x, .inl lo, .inl hi]), [], M) (fun r M' => ∃ y, r = some (.inl y) ∧ M' = M ∧ y = (bif decide (lo.toInt ≤ x.toInt) && decide (x.toInt ≤ hi.toInt) then 1 else 0)) := by
  show wpS cd (nv_S τ (d, [], 156, 0, la 0 [.inl x, .inl lo, .inl hi], [], M)) _
  have hct := hc_of hz
  refine nv_cut hct nvR 156 2 5 (S' := (d, [], 156, 2, [(0, .inl x), (1, .inl lo), (2, .inl hi)], [.inl lo, .inl x], M)) hE.1 rfl ?_
  by_cases h1 : x.toInt < lo.toInt
  · skip
    refine nv_ifc hct true rfl (ccT0 rfl rfl h1) ?_
    refine nv_cut hct nvR 156 15 4 (S' := (d, [], 156, 15, [(0, .inl x), (1, .inl lo), (2, .inl hi)], [.inl (0 : Int32)], M)) hE.1 rfl ?_
    exact nv_iret hct rfl rfl ⟨_, rfl, rfl, by rw [decide_eq_false (by omega)]; rfl⟩
  · skip
    refine nv_ifc hct false rfl (ccF0 rfl rfl (by omega)) ?_
    refine nv_cut hct nvR 156 7 5 (S' := (d, [], 156, 7, [(0, .inl x), (1, .inl lo), (2, .inl hi)], [.inl hi, .inl x], M)) hE.1 rfl ?_
    by_cases h2 : hi.toInt < x.toInt
    · skip
      refine nv_ifc hct true rfl (ccT3 rfl rfl h2) ?_
      refine nv_cut hct nvR 156 15 4 (S' := (d, [], 156, 15, [(0, .inl x), (1, .inl lo), (2, .inl hi)], [.inl (0 : Int32)], M)) hE.1 rfl ?_
      exact nv_iret hct rfl rfl ⟨_, rfl, rfl, by rw [decide_eq_true (show lo.toInt ≤ x.toInt by omega), decide_eq_false (show ¬ x.toInt ≤ hi.toInt by omega)]; rfl⟩
    · skip
      refine nv_ifc hct false rfl (ccF3 rfl rfl (by omega)) ?_
      refine nv_cut hct nvR 156 15 5 (S' := (d, [], 156, 15, [(0, .inl x), (1, .inl lo), (2, .inl hi)], [.inl (1 : Int32)], M)) hE.1 rfl ?_
      exact nv_iret hct rfl rfl ⟨_, rfl, rfl, by rw [decide_eq_true (show lo.toInt ≤ x.toInt by omega), decide_eq_true (show x.toInt ≤ hi.toInt by omega)]; rfl⟩
/-- a mode behind which the reading goes on -/
def m_ok (B : Nat → Int) (lim : Nat) (m : pmd) : Prop := ∀ p, m = .inl p → knd B lim p = 1 ∨ knd B lim p = 2 ∨ knd B lim p = 3
theorem ok_r {B : Nat → Int} {lim : Nat} {f : Nat × Nat} : m_ok B lim (.inr f) := fun p e => by cases e
def m_w1 (B : Nat → Int) (lim : Nat) (lo hi : Int) (m : pmd) : pmd := bif m_dg B lim m then m_if B lim 4 (!(decide (lo ≤ m_val B lim m) && decide (m_val B lim m ≤ hi))) m else m_bad B lim 1 m
theorem w1_inl {B : Nat → Int} {lim : Nat} {lo hi : Int} {m : pmd} {p : Nat} (h : m_w1 B lim lo hi m = .inl p) : m = .inl p ∧ knd B lim p = 2 ∧ lo ≤ val B lim p ∧ val B lim p ≤ hi := by
  rcases m with q | f
  · unfold m_w1 at h
    cases hd : m_dg B lim (.inl q) with
    | false => rw [hd] at h; cases h
    | true =>
      rw [hd] at h
      have hk : knd B lim q = 2 := nbT hd
      unfold m_if at h
      simp only [cond_true] at h
      cases hb : (decide (lo ≤ m_val B lim (.inl q)) && decide (m_val B lim (.inl q) ≤ hi)) with
      | false => rw [hb] at h; cases h
      | true =>
        rw [hb] at h
        cases h
        obtain ⟨b1, b2⟩ := (Bool.and_eq_true _ _).mp hb
        exact ⟨rfl, hk, of_decide_eq_true b1, of_decide_eq_true b2⟩
  · unfold m_w1 m_dg at h
    cases h
theorem w1_ok {B : Nat → Int} {lim : Nat} {lo hi : Int} {m : pmd} : m_ok B lim (m_w1 B lim lo hi m) := fun p e => Or.inr (Or.inl (w1_inl e).2.1)
theorem val_n {B : Nat → Int} {lim : Nat} {M : aM} {p : Nat} (hS : StR B lim M (.inl p)) (hk : knd B lim p = 2) : (a_I M 113 12).toInt = val B lim p := by
  obtain ⟨_, ⟨_, h⟩, _⟩ := hS
  rcases h with ⟨k, h⟩ | ⟨k, h, h3, _⟩ | ⟨k, h, _, h3⟩ | ⟨k, h, h2, h3⟩ | ⟨k, h | ⟨h, h2⟩⟩
  · omega
  · omega
  · exact h3
  all_goals omega
set_option maxHeartbeats 4000000 in
theorem r_rw33 {cd : Nat → Nat → Option aI} {z : Bool} (hz : ∀ m p i, cd0 z m p = some i → cd m p = some i) {τ : Nat → Nat} {B : Nat → Int} {lim : Nat} {M0 M : aM} (hF : FrX [8, 9, 10, 11, 12, 13, 14] M0 M) (hE : EnR τ B lim M) {m0 : pmd} {lo hi : Int32} (hS : StR B lim M (m_w1 B lim lo.toInt hi.toInt m0)) {d : Nat} : wpS cd (nv_S τ (d + 2, [], 167, 33, [(0, .inr (.inr (some 113))), (1, .inl lo), (2, .inl hi)], [], M)) (fun r M' => ∃ x, r = some (.inl x) ∧ FrX [8, 9, 10, 11, 12, 13, 14] M0 M' ∧ StR B lim M' (m_wh B lim lo.toInt hi.toInt m0) ∧ ∀ p, m_wh B lim lo.toInt hi.toInt m0 = .inl p → x.toInt = m_val B lim m0 ∧ lo.toInt ≤ x.toInt ∧ x.toInt ≤ hi.toInt) := by
  have hct := hc_of hz
  refine nv_cut hct nvR 162 0 8 (S' := (d + 1, [(167, 42, [(3, .inl (a_I M 113 12)), (0, .inr (.inr (some 113))), (1, .inl lo), (2, .inl hi)], [])], 162, 0, la 0 [.inr (.inr (some 113))], [], M)) hE.1 rfl ?_
  refine nv_callv (r_adv hz hE hS w1_ok) (fun M1 ⟨f1, S1⟩ => ?_)
  have E1 := Fx_E (by decide) f1 hE
  refine nv_cut hct nvR 167 43 4 (S' := (d + 2, [], 167, 43, [(3, .inl (a_I M 113 12)), (0, .inr (.inr (some 113))), (1, .inl lo), (2, .inl hi)], [.inl (a_I M 113 12)], M1)) E1.1 rfl ?_
  refine nv_iret hct rfl rfl ⟨_, rfl, Fx_tr hF f1, S1, fun p hp => ?_⟩
  cases hm : m_w1 B lim lo.toInt hi.toInt m0 with
  | inl q =>
    obtain ⟨e1, e2, e3, e4⟩ := w1_inl hm
    rw [hm] at hS
    rw [val_n hS e2, e1]
    exact ⟨rfl, e3, e4⟩
  | inr f =>
    unfold m_wh at hp
    unfold m_w1 at hm
    rw [hm] at hp
    cases hp
set_option maxHeartbeats 4000000 in
theorem r_readWhole {cd : Nat → Nat → Option aI} {z : Bool} (hz : ∀ m p i, cd0 z m p = some i → cd m p = some i) {τ : Nat → Nat} {B : Nat → Int} {lim : Nat} {M : aM} (hE : EnR τ B lim M) {m : pmd} (hS : StR B lim M m) {lo hi : Int32} {d : Nat} : wpS cd (d + 2, [], 167, 0, nv_l τ (la 0 [.inr (.inr (some 113)), .inl lo, .inl hi]), [], M) (fun r M' => ∃ x, r = some (.inl x) ∧ FrX [8, 9, 10, 11, 12, 13, 14] M M' ∧ StR B lim M' (m_wh B lim lo.toInt hi.toInt m) ∧ ∀ p, m_wh B lim lo.toInt hi.toInt m = .inl p → x.toInt = m_val B lim m ∧ lo.toInt ≤ x.toInt ∧ x.toInt ≤ hi.toInt) := by
  show wpS cd (nv_S τ (d + 2, [], 167, 0, la 0 [.inr (.inr (some 113)), .inl lo, .inl hi], [], M)) _
  have hct := hc_of hz
  refine nv_cut hct nvR 167 5 6 (S' := (d + 2, [], 167, 5, [(0, .inr (.inr (some 113))), (1, .inl lo), (2, .inl hi)], [.inl (3 : Int32), .inl (a_I M 113 9)], M)) hE.1 rfl ?_
  cases hd : m_dg B lim m with
  | false =>
    have hne : (a_I M 113 9).toInt ≠ 3 := fun q => by
      rcases m with p | f
      · have := (St_s hS).2.1.mp q; have hd : Nat.beq (knd B lim p) 2 = false := hd; rw [this] at hd; cases hd
      · rw [hS.1] at q; exact absurd q (by decide)
    refine nv_ifc hct false rfl (ccF1 rfl (show ((3 : Int32)).toInt = 3 from rfl) hne) ?_
    refine nv_cut hct nvR 163 0 6 (S' := (d + 1, [(167, 13, [(0, .inr (.inr (some 113))), (1, .inl lo), (2, .inl hi)], [])], 163, 0, la 0 [.inr (.inr (some 113)), .inl (1 : Int32)], [], M)) hE.1 rfl ?_
    refine nv_callv (r_wrong hz hE hS (kn := 1) rfl (by decide)) (fun M1 ⟨f1, S1⟩ => ?_)
    have E1 := Fx_E (by decide) f1 hE
    refine nv_cut hct nvR 167 33 4 (S' := (d + 2, [], 167, 33, [(0, .inr (.inr (some 113))), (1, .inl lo), (2, .inl hi)], [], M1)) E1.1 rfl ?_
    exact r_rw33 hz f1 E1 (by unfold m_w1; rw [hd]; exact S1)
  | true =>
    have hk2 : ∃ p, m = .inl p ∧ knd B lim p = 2 := by
      rcases m with p | f
      · exact ⟨p, rfl, nbT hd⟩
      · cases hd
    obtain ⟨p, rfl, hk2⟩ := hk2
    have hv := val_n hS hk2
    refine nv_ifc hct true rfl (ccT1 rfl (show ((3 : Int32)).toInt = 3 from rfl) ((St_s hS).2.1.mpr hk2)) ?_
    refine nv_cut hct nvR 156 0 8 (S' := (d + 1, [(167, 25, [(0, .inr (.inr (some 113))), (1, .inl lo), (2, .inl hi)], [])], 156, 0, la 0 [.inl (a_I M 113 12), .inl lo, .inl hi], [], M)) hE.1 rfl ?_
    refine nv_calli (r_in hz hE) (fun y M1 ⟨e1, hy⟩ => ?_)
    subst e1
    refine nv_cut hct nvR 167 25 3 (S' := (d + 2, [], 167, 25, [(0, .inr (.inr (some 113))), (1, .inl lo), (2, .inl hi)], [.inl y], M1)) hE.1 rfl ?_
    rw [hv] at hy
    cases hc : (decide (lo.toInt ≤ val B lim p) && decide (val B lim p ≤ hi.toInt)) with
    | true =>
      refine nv_if hct true rfl (zcT5 (show y.toInt = 1 by rw [hy, hc]; rfl) (by decide)) ?_
      refine r_rw33 hz Fx_rf hE ?_
      unfold m_w1 m_if; rw [hd]; show StR B lim M1 (bif !(decide (lo.toInt ≤ val B lim p) && decide (val B lim p ≤ hi.toInt)) then _ else _); rw [hc]; exact hS
    | false =>
      refine nv_if hct false rfl (zcF5 (show y.toInt = 0 by rw [hy, hc]; rfl) rfl) ?_
      refine nv_cut hct nvR 163 0 6 (S' := (d + 1, [(167, 33, [(0, .inr (.inr (some 113))), (1, .inl lo), (2, .inl hi)], [])], 163, 0, la 0 [.inr (.inr (some 113)), .inl (4 : Int32)], [], M1)) hE.1 rfl ?_
      refine nv_callv (r_wrong hz hE hS (kn := 4) rfl (by decide)) (fun M2 ⟨f1, S1⟩ => ?_)
      have E1 := Fx_E (by decide) f1 hE
      refine nv_cut hct nvR 167 33 3 (S' := (d + 2, [], 167, 33, [(0, .inr (.inr (some 113))), (1, .inl lo), (2, .inl hi)], [], M2)) E1.1 rfl ?_
      refine r_rw33 hz f1 E1 ?_
      unfold m_w1 m_if; rw [hd]; show StR B lim M2 (bif !(decide (lo.toInt ≤ val B lim p) && decide (val B lim p ≤ hi.toInt)) then _ else _); rw [hc]; exact S1
theorem wd_ok {B : Nat → Int} {lim : Nat} {w : List Nat} {m : pmd} : m_ok B lim (m_if B lim 1 (!m_is B lim w m) m) := fun p e => by
  rcases m with q | f
  · cases hb : m_is B lim w (.inl q) with
    | false => rw [hb] at e; cases e
    | true =>
      rw [hb] at e
      cases e
      obtain ⟨b1, _⟩ := (Bool.and_eq_true _ _).mp hb
      exact Or.inl (nbT b1)
  · cases e
set_option maxHeartbeats 4000000 in
theorem r_readPart {cd : Nat → Nat → Option aI} {z : Bool} (hz : ∀ m p i, cd0 z m p = some i → cd m p = some i) {τ : Nat → Nat} {B : Nat → Int} {lim : Nat} {M : aM} (hE : EnR τ B lim M) {m : pmd} (hS : StR B lim M m) {k : Nat} (hk : k < 52) {lo hi : Int32} {d : Nat} : wpS cd (d + 6, [], 168, 0, nv_l τ (la 0 [.inr (.inr (some 113)), .inr (.inr (some (aSB + k))), .inl lo, .inl hi]), [], M) (fun r M' => ∃ x, r = some (.inl x) ∧ FrX [8, 9, 10, 11, 12, 13, 14] M M' ∧ StR B lim M' (m_pt B lim (txc k) lo.toInt hi.toInt m) ∧ ∀ p, m_pt B lim (txc k) lo.toInt hi.toInt m = .inl p → x.toInt = m_val B lim (m_wd B lim (txc k) m) ∧ lo.toInt ≤ x.toInt ∧ x.toInt ≤ hi.toInt) := by
  show wpS cd (nv_S τ (d + 6, [], 168, 0, la 0 [.inr (.inr (some 113)), .inr (.inr (some (aSB + k))), .inl lo, .inl hi], [], M)) _
  have hct := hc_of hz
  refine nv_cut hct nvR 165 0 6 (S' := (d + 5, [(168, 5, [(0, .inr (.inr (some 113))), (1, .inr (.inr (some (aSB + k)))), (2, .inl lo), (3, .inl hi)], [])], 165, 0, la 0 [.inr (.inr (some 113)), .inr (.inr (some (aSB + k)))], [], M)) hE.1 rfl ?_
  refine nv_calli (r_isWord hz hE hS hk) (fun x M1 ⟨e1, hx⟩ => ?_)
  subst e1
  refine nv_cut hct nvR 168 5 3 (S' := (d + 6, [], 168, 5, [(0, .inr (.inr (some 113))), (1, .inr (.inr (some (aSB + k)))), (2, .inl lo), (3, .inl hi)], [.inl x], M1)) hE.1 rfl ?_
  have key : ∀ M2, FrX [8, 9, 10, 11, 12, 13, 14] M1 M2 → StR B lim M2 (m_if B lim 1 (!m_is B lim (txc k) m) m) → wpS cd (nv_S τ (d + 6, [], 168, 13, [(0, .inr (.inr (some 113))), (1, .inr (.inr (some (aSB + k)))), (2, .inl lo), (3, .inl hi)], [], M2)) (fun r M' => ∃ x, r = some (.inl x) ∧ FrX [8, 9, 10, 11, 12, 13, 14] M1 M' ∧ StR B lim M' (m_pt B lim (txc k) lo.toInt hi.toInt m) ∧ ∀ p, m_pt B lim (txc k) lo.toInt hi.toInt m = .inl p → x.toInt = m_val B lim (m_wd B lim (txc k) m) ∧ lo.toInt ≤ x.toInt ∧ x.toInt ≤ hi.toInt) := by
    intro M2 f2 S2
    have E2 := Fx_E (by decide) f2 hE
    refine nv_cut hct nvR 162 0 5 (S' := (d + 5, [(168, 17, [(0, .inr (.inr (some 113))), (1, .inr (.inr (some (aSB + k)))), (2, .inl lo), (3, .inl hi)], [])], 162, 0, la 0 [.inr (.inr (some 113))], [], M2)) E2.1 rfl ?_
    refine nv_callv (r_adv hz E2 S2 wd_ok) (fun M3 ⟨f3, S3⟩ => ?_)
    have E3 := Fx_E (by decide) f3 E2
    refine nv_cut hct nvR 167 0 7 (S' := (d + 5, [(168, 23, [(0, .inr (.inr (some 113))), (1, .inr (.inr (some (aSB + k)))), (2, .inl lo), (3, .inl hi)], [])], 167, 0, la 0 [.inr (.inr (some 113)), .inl lo, .inl hi], [], M3)) E3.1 rfl ?_
    refine nv_calli (r_readWhole hz E3 S3) (fun v M4 ⟨f4, S4, h4⟩ => ?_)
    have E4 := Fx_E (by decide) f4 E3
    refine nv_cut hct nvR 168 23 3 (S' := (d + 6, [], 168, 23, [(0, .inr (.inr (some 113))), (1, .inr (.inr (some (aSB + k)))), (2, .inl lo), (3, .inl hi)], [.inl v], M4)) E4.1 rfl ?_
    exact nv_iret hct rfl rfl ⟨_, rfl, Fx_tr f2 (Fx_tr f3 f4), S4, h4⟩
  cases hc : m_is B lim (txc k) m with
  | true =>
    refine nv_if hct true rfl (zcT5 (show x.toInt = 1 by rw [hx, hc]; rfl) (by decide)) ?_
    exact key M1 Fx_rf (by rw [hc]; exact hS)
  | false =>
    refine nv_if hct false rfl (zcF5 (show x.toInt = 0 by rw [hx, hc]; rfl) rfl) ?_
    refine nv_cut hct nvR 163 0 6 (S' := (d + 5, [(168, 13, [(0, .inr (.inr (some 113))), (1, .inr (.inr (some (aSB + k)))), (2, .inl lo), (3, .inl hi)], [])], 163, 0, la 0 [.inr (.inr (some 113)), .inl (1 : Int32)], [], M1)) hE.1 rfl ?_
    refine nv_callv (r_wrong hz hE hS (kn := 1) rfl (by decide)) (fun M2 ⟨f1, S1⟩ => ?_)
    have E1 := Fx_E (by decide) f1 hE
    refine nv_cut hct nvR 168 13 3 (S' := (d + 6, [], 168, 13, [(0, .inr (.inr (some 113))), (1, .inr (.inr (some (aSB + k)))), (2, .inl lo), (3, .inl hi)], [], M2)) E1.1 rfl ?_
    exact key M2 f1 (by rw [hc]; exact S1)

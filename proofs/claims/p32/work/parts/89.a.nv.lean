/-! Runs by names: an object below 137 and a text are named by themselves, other objects by τ. -/
theorem bifE2 {a : Bool} {α : Type} {x : Option α} {y : α} (h : (bif a then x else none) = some y) : a = true ∧ x = some y := by
  cases a with
  | true => exact ⟨rfl, h⟩
  | false => cases h
def nv_s (τ : Nat → Nat) (a : Nat) : Nat := bif Nat.blt a 137 || Nat.ble aSB a then a else τ a
def nv_v (τ : Nat → Nat) (v : aV) : aV := match v with
  | .inl x => .inl x
  | .inr (.inl x) => .inr (.inl x)
  | .inr (.inr none) => .inr (.inr none)
  | .inr (.inr (some a)) => .inr (.inr (some (nv_s τ a)))
def nv_l (τ : Nat → Nat) : aL → aL
  | [] => []
  | q :: t => (q.1, nv_v τ q.2) :: nv_l τ t
def nv_t (τ : Nat → Nat) : List aV → List aV
  | [] => []
  | v :: t => nv_v τ v :: nv_t τ t
def nv_f (τ : Nat → Nat) : List aFr → List aFr
  | [] => []
  | f :: t => (f.1, f.2.1, nv_l τ f.2.2.1, nv_t τ f.2.2.2) :: nv_f τ t
/-- what is known of the named objects: kinds and lengths (one more; 0: unknown), references -/
abbrev nv_T : Type := (Nat → Nat) × (Nat → Nat) × (Nat → Nat → Option (Option Nat))
def nv_A (T : nv_T) (τ : Nat → Nat) (M : aM) : Prop := (∀ a c, T.1 a = c + 1 → nv_s τ a < a_n M ∧ a_K M (nv_s τ a) = c) ∧ (∀ a n, T.2.1 a = n + 1 → a_N M (nv_s τ a) = n) ∧ ∀ a k r, T.2.2 a k = some r → a_P M (nv_s τ a) k = r.map (nv_s τ)
theorem nv_isL {τ : Nat → Nat} {v : aV} : isL (nv_v τ v) = isL v := by
  rcases v with x | x | _ | a <;> rfl
theorem nv_lk {τ : Nat → Nat} {i : Nat} : ∀ {lo : aL}, lk i (nv_l τ lo) = (lk i lo).map (nv_v τ)
  | [] => rfl
  | q :: t => by
    show (bif Nat.beq q.1 i then some (nv_v τ q.2) else lk i (nv_l τ t)) = (bif Nat.beq q.1 i then some q.2 else lk i t).map (nv_v τ)
    cases Nat.beq q.1 i with
    | true => rfl
    | false => exact nv_lk (lo := t)
theorem nv_rml {τ : Nat → Nat} {i : Nat} : ∀ {lo : aL}, rml i (nv_l τ lo) = nv_l τ (rml i lo)
  | [] => rfl
  | q :: t => by
    show (bif Nat.beq q.1 i || (Nat.beq (q.1 + 1) i && isL (nv_v τ q.2)) then rml i (nv_l τ t) else (q.1, nv_v τ q.2) :: rml i (nv_l τ t)) = nv_l τ (bif Nat.beq q.1 i || (Nat.beq (q.1 + 1) i && isL q.2) then rml i t else q :: rml i t)
    rw [nv_isL, nv_rml (lo := t)]
    cases (Nat.beq q.1 i || (Nat.beq (q.1 + 1) i && isL q.2)) <;> rfl
theorem nv_cat {τ : Nat → Nat} {v : aV} : cat (nv_v τ v) = cat v := by unfold cat; rw [nv_isL]
theorem nv_cs {τ : Nat → Nat} : ∀ {st : List aV}, csum (nv_t τ st) = csum st
  | [] => rfl
  | v :: t => by show cat (nv_v τ v) + csum (nv_t τ t) = cat v + csum t; rw [nv_cat, nv_cs]
theorem nv_la {τ : Nat → Nat} : ∀ {st : List aV} {i : Nat}, la i (nv_t τ st) = nv_l τ (la i st)
  | [], _ => rfl
  | v :: t, i => by show (i, nv_v τ v) :: la (i + cat (nv_v τ v)) (nv_t τ t) = (i, nv_v τ v) :: nv_l τ (la (i + cat v) t); rw [nv_cat, nv_la]
theorem nv_len {τ : Nat → Nat} : ∀ {st : List aV}, (nv_t τ st).length = st.length
  | [] => rfl
  | v :: t => by show (nv_t τ t).length + 1 = t.length + 1; rw [nv_len]
theorem nv_app {τ : Nat → Nat} : ∀ {a b : List aV}, nv_t τ (a ++ b) = nv_t τ a ++ nv_t τ b
  | [], _ => rfl
  | v :: t, b => by show nv_v τ v :: nv_t τ (t ++ b) = nv_v τ v :: (nv_t τ t ++ nv_t τ b); rw [nv_app]
theorem nv_rev {τ : Nat → Nat} : ∀ {st : List aV}, nv_t τ st.reverse = (nv_t τ st).reverse
  | [] => rfl
  | v :: t => by rw [List.reverse_cons, nv_app, nv_rev]; show _ = (nv_v τ v :: nv_t τ t).reverse; rw [List.reverse_cons]; rfl
theorem nv_drop {τ : Nat → Nat} : ∀ {n : Nat} {st : List aV}, (nv_t τ st).drop n = nv_t τ (st.drop n)
  | 0, _ => rfl
  | _ + 1, [] => rfl
  | n + 1, _ :: t => nv_drop (n := n) (st := t)
theorem nv_take {τ : Nat → Nat} : ∀ {n : Nat} {st : List aV}, (nv_t τ st).take n = nv_t τ (st.take n)
  | 0, _ => rfl
  | _ + 1, [] => rfl
  | n + 1, v :: t => by show nv_v τ v :: (nv_t τ t).take n = nv_v τ v :: nv_t τ (t.take n); rw [nv_take]
theorem nv_psh {τ : Nat → Nat} {r : Option aV} {st : List aV} : psh (r.map (nv_v τ)) (nv_t τ st) = nv_t τ (psh r st) := by
  cases r <;> rfl
def nv_r (τ : Nat → Nat) (r : aR) : aR := match r with
  | .inl (pc, lo, st, M) => .inl (pc, nv_l τ lo, nv_t τ st, M)
  | .inr (.inl (y, As, rest)) => .inr (.inl (y, nv_t τ As, nv_t τ rest))
  | .inr (.inr r) => .inr (.inr (r.map (nv_v τ)))
/-- an instruction by names -/
def nv_1 (T : nv_T) (τ : Nat → Nat) (o : aO) (lo : aL) (st : List aV) (M : aM) : Option aR := match o with
  | (0, nx, _, _, _, x) => j_c nx x lo st M
  | (1, nx, i, _, _, _) => j_iload nx i lo st M
  | (2, nx, i, _, _, _) => j_aload nx i lo st M
  | (3, nx, i, _, _, _) => j_istore nx i lo st M
  | (4, nx, i, _, _, _) => j_astore nx i lo st M
  | (5, nx, i, _, _, x) => j_iinc nx i x lo st M
  | (6, nx, f, _, _, _) => j_bin nx (binf f) lo st M
  | (7, nx, f, _, _, _) => j_div nx (divf f) lo st M
  | (8, nx, f, _, _, _) => j_un nx (unf f) lo st M
  | (9, t, _, _, _, _) => j_goto t lo st M
  | (10, t, nx, f, _, _) => j_if (cmp0 f) t nx lo st M
  | (11, t, nx, f, _, _) => j_ifc (cmpf f) t nx lo st M
  | (12, nx, ci, k, t, _) => (match st with
    | .inr (.inr (some a)) :: s => bif Nat.beq (T.1 a) (ci + 1) then (match t with
        | 0 => some (.inl (nx, lo, .inl (a_I M (nv_s τ a) k) :: s, M))
        | 1 => some (.inl (nx, lo, .inr (.inl (a_J M (nv_s τ a) k)) :: s, M))
        | _ => (match T.2.2 a k with
          | some r => some (.inl (nx, lo, .inr (.inr r) :: s, M))
          | none => none)) else none
    | _ => none)
  | (13, nx, ci, k, b, _) => (match st with
    | .inl x :: .inr (.inr (some a)) :: s => bif Nat.beq (T.1 a) (ci + 1) && (!nB b || isB x) then some (.inl (nx, lo, s, s_I M (nv_s τ a) k x)) else none
    | _ => none)
  | (18, nx, _, _, _, _) => (match st with
    | .inr (.inr (some a)) :: s => bif (Nat.ble 15 (T.1 a) && Nat.ble (T.1 a) 20) && Nat.ble 1 (T.2.1 a) then some (.inl (nx, lo, .inl (Int32.ofNat (T.2.1 a - 1)) :: s, M)) else none
    | _ => none)
  | (19, nx, _, _, _, _) => j_dup nx lo st M
  | (20, nx, _, _, _, _) => j_pop nx lo st M
  | (22, t, nx, _, _, _) => j_ifnull t nx lo st M
  | (23, nx, id, _, _, _) => bif Nat.blt id 900000 then j_str nx id lo st M else none
  | (24, b, _, _, _, _) => j_iret (nB b) lo st M
  | (25, _, _, _, _, _) => j_vret lo st M
  | (26, _, _, _, _, _) => j_aret lo st M
  | (27, y, ci, n, mx, _) => (match st.drop n with
    | .inr (.inr (some a)) :: rest => bif Nat.beq (T.1 a) (ci + 1) && (Nat.ble (csum rest) 8 && (Nat.beq (st.take n).length n && Nat.ble (csum (.inr (.inr (some a)) :: (st.take n).reverse)) mx)) then some (.inr (.inl (y, .inr (.inr (some a)) :: (st.take n).reverse, rest))) else none
    | _ => none)
  | (28, y, n, mx, _, _) => j_calls y n mx lo st M
  | _ => none
theorem nv_kd {T : nv_T} {τ : Nat → Nat} {M : aM} (hA : nv_A T τ M) {a ci : Nat} (h : Nat.beq (T.1 a) (ci + 1) = true) : (Nat.blt (nv_s τ a) (a_n M) && Nat.beq (a_K M (nv_s τ a)) ci) = true := by
  obtain ⟨h1, h2⟩ := hA.1 a ci (nbT h)
  rw [h2, Nat.beq_refl, show Nat.blt (nv_s τ a) (a_n M) = true from Nat.ble_eq.mpr h1]
  rfl
set_option maxHeartbeats 2000000 in
theorem nv_1ok {T : nv_T} {τ : Nat → Nat} {o : aO} {lo : aL} {st : List aV} {M : aM} {r : aR} (hA : nv_A T τ M) (h : nv_1 T τ o lo st M = some r) : semO o (nv_l τ lo) (nv_t τ st) M = some (nv_r τ r) := by
  unfold nv_1 at h
  split at h
  · cases h; rfl
  · rename_i nx i _ _ _
    show j_iload nx i (nv_l τ lo) (nv_t τ st) M = _
    unfold j_iload at h ⊢
    rw [nv_lk]
    split at h
    · rename_i x hx; cases h; rw [hx]; rfl
    · cases h
  · rename_i nx i _ _ _
    show j_aload nx i (nv_l τ lo) (nv_t τ st) M = _
    unfold j_aload at h ⊢
    rw [nv_lk]
    split at h
    · rename_i x hx; cases h; rw [hx]; rfl
    · cases h
  · unfold j_istore at h
    split at h
    · cases h
      show some (Sum.inl (_, (_, _) :: rml _ (nv_l τ lo), _, M)) = _
      rw [nv_rml]; rfl
    · cases h
  · unfold j_astore at h
    split at h
    · cases h
      show some (Sum.inl (_, (_, _) :: rml _ (nv_l τ lo), _, M)) = _
      rw [nv_rml]; rfl
    · cases h
  · rename_i nx i _ _ x
    show j_iinc nx i x (nv_l τ lo) (nv_t τ st) M = _
    unfold j_iinc at h ⊢
    rw [nv_lk]
    split at h
    · rename_i y hy; cases h; rw [hy]; show some (Sum.inl (_, (_, _) :: rml _ (nv_l τ lo), _, M)) = _; rw [nv_rml]; rfl
    · cases h
  · unfold j_bin at h
    split at h
    · cases h; rfl
    · cases h
  · rename_i nx f _ _ _
    unfold j_div at h
    split at h
    · rename_i y x s
      by_cases e : y = 0
      · rw [if_pos e] at h; cases h
      · rw [if_neg e] at h
        cases h
        show (if y = 0 then none else _) = _
        rw [if_neg e]
        rfl
    · cases h
  · unfold j_un at h
    split at h
    · cases h; rfl
    · cases h
  · cases h; rfl
  · unfold j_if at h
    split at h
    · cases h; rfl
    · cases h
  · unfold j_ifc at h
    split at h
    · cases h; rfl
    · cases h
  · rename_i nx ci k t _
    split at h
    · rename_i a s
      cases hb : Nat.beq (T.1 a) (ci + 1) with
      | false => rw [hb] at h; cases h
      | true =>
        rw [hb] at h
        simp only [cond_true] at h
        show (bif Nat.blt (nv_s τ a) (a_n M) && Nat.beq (a_K M (nv_s τ a)) ci then some (Sum.inl (nx, nv_l τ lo, fv M (nv_s τ a) k t :: nv_t τ s, M)) else none) = _
        rw [nv_kd hA hb]
        split at h
        · cases h; rfl
        · cases h; rfl
        · rename_i h0 h1
          split at h
          · rename_i r hr
            cases h
            have hp := hA.2.2 a k r hr
            have e1 : fv M (nv_s τ a) k t = .inr (.inr (a_P M (nv_s τ a) k)) := by
              rcases t with _ | _ | t
              · exact absurd rfl h0
              · exact absurd rfl h1
              · rfl
            show some (Sum.inl (nx, nv_l τ lo, fv M (nv_s τ a) k t :: nv_t τ s, M)) = _
            rw [e1, hp]
            cases r <;> rfl
          · cases h
    · cases h
  · rename_i nx ci k b _
    split at h
    · rename_i x a s
      cases hb : Nat.beq (T.1 a) (ci + 1) with
      | false => rw [hb] at h; cases h
      | true =>
        rw [hb, Bool.true_and] at h
        obtain ⟨h1, h2⟩ := bifE h
        cases h2
        show (bif (Nat.blt (nv_s τ a) (a_n M) && Nat.beq (a_K M (nv_s τ a)) ci) && (!nB b || isB x) then _ else none) = _
        rw [nv_kd hA hb, h1]
        rfl
    · cases h
  · rename_i nx _ _ _ _
    split at h
    · rename_i a s
      obtain ⟨h1, h2⟩ := bifE h
      cases h2
      obtain ⟨h3, h4⟩ := (Bool.and_eq_true _ _).mp h1
      obtain ⟨h5, h6⟩ := (Bool.and_eq_true _ _).mp h3
      have h5 := Nat.le_of_ble_eq_true h5
      have h6 := Nat.le_of_ble_eq_true h6
      have h4 := Nat.le_of_ble_eq_true h4
      obtain ⟨k1, k2⟩ := hA.1 a (T.1 a - 1) (by omega)
      have n1 := hA.2.1 a (T.2.1 a - 1) (by omega)
      show (bif Nat.blt (nv_s τ a) (a_n M) && (Nat.ble 14 (a_K M (nv_s τ a)) && Nat.ble (a_K M (nv_s τ a)) 19) then some (Sum.inl (nx, nv_l τ lo, .inl (Int32.ofNat (a_N M (nv_s τ a))) :: nv_t τ s, M)) else none) = _
      rw [k2, n1, show Nat.blt (nv_s τ a) (a_n M) = true from Nat.ble_eq.mpr k1, show Nat.ble 14 (T.1 a - 1) = true from Nat.ble_eq.mpr (by omega), show Nat.ble (T.1 a - 1) 19 = true from Nat.ble_eq.mpr (by omega)]
      rfl
    · cases h
  · rename_i nx _ _ _ _
    rcases st with _ | ⟨v, s⟩
    · cases h
    · rcases v with x | x | _ | a
      · cases h; rfl
      · cases h
      · cases h; rfl
      · cases h; rfl
  · rename_i nx _ _ _ _
    rcases st with _ | ⟨v, s⟩
    · cases h
    · rcases v with x | x | _ | a
      · cases h; rfl
      · cases h
      · cases h; rfl
      · cases h; rfl
  · unfold j_ifnull at h
    split at h
    · cases h; rfl
    · cases h; rfl
    · cases h
  · rename_i nx id _ _ _
    obtain ⟨h1, h2⟩ := bifE2 h
    cases h2
    have e : nv_s τ (aSB + id) = aSB + id := by
      unfold nv_s
      rw [show Nat.ble aSB (aSB + id) = true from Nat.ble_eq.mpr (Nat.le_add_right _ _), Bool.or_true]
      rfl
    show some (Sum.inl (nx, nv_l τ lo, .inr (.inr (some (aSB + id))) :: nv_t τ st, M)) = some (Sum.inl (nx, nv_l τ lo, .inr (.inr (some (nv_s τ (aSB + id)))) :: nv_t τ st, M))
    rw [e]
  · unfold j_iret at h
    split at h
    · rename_i v
      obtain ⟨h1, h2⟩ := bifE h
      cases h2
      show (bif _ then _ else _) = _
      rw [h1]
      rfl
    · cases h
  · unfold j_vret at h
    split at h
    · cases h; rfl
    · cases h
  · unfold j_aret at h
    split at h
    · rename_i r
      cases h
      cases r <;> rfl
    · cases h
  · rename_i y ci n mx _
    split at h
    · rename_i a rest hd
      obtain ⟨h1, h2⟩ := bifE h
      cases h2
      obtain ⟨h3, h4⟩ := (Bool.and_eq_true _ _).mp h1
      show j_callv y ci n mx (nv_l τ lo) (nv_t τ st) M = _
      unfold j_callv
      rw [nv_drop, hd]
      show (bif (Nat.blt (nv_s τ a) (a_n M) && Nat.beq (a_K M (nv_s τ a)) ci) && (Nat.ble (csum (nv_t τ rest)) 8 && (Nat.beq ((nv_t τ st).take n).length n && Nat.ble (csum (.inr (.inr (some (nv_s τ a))) :: ((nv_t τ st).take n).reverse)) mx)) then some (Sum.inr (Sum.inl (y, .inr (.inr (some (nv_s τ a))) :: ((nv_t τ st).take n).reverse, nv_t τ rest))) else none) = _
      rw [nv_kd hA h3, nv_take, ← nv_rev, nv_len, nv_cs]
      rw [show csum (.inr (.inr (some (nv_s τ a))) :: nv_t τ (st.take n).reverse) = csum (.inr (.inr (some a)) :: (st.take n).reverse) from (show 1 + csum (nv_t τ (st.take n).reverse) = 1 + csum (st.take n).reverse by rw [nv_cs])]
      rw [h4]
      rfl
    · cases h
  · rename_i y n mx _ _
    unfold j_calls at h
    obtain ⟨h1, h2⟩ := bifE h
    cases h2
    show j_calls y n mx (nv_l τ lo) (nv_t τ st) M = _
    unfold j_calls
    rw [nv_drop, nv_take, ← nv_rev, nv_len, nv_cs, nv_cs, h1]
    rfl
  · cases h
/-- a run by names, till sp of sm -/
def nv_go (ct : Nat → Nat → Option aO) (T : nv_T) (τ : Nat → Nat) (sm sp : Nat) : Nat → Nat → List aFr → Nat → Nat → aL → List aV → aM → aSt
  | 0, d, fs, mid, pc, lo, st, M => (d, fs, mid, pc, lo, st, M)
  | n + 1, d, fs, mid, pc, lo, st, M => bif Nat.beq pc sp && Nat.beq mid sm then (d, fs, mid, pc, lo, st, M) else match ct mid pc with
    | none => (d, fs, mid, pc, lo, st, M)
    | some o => match nv_1 T τ o lo st M with
      | none => (d, fs, mid, pc, lo, st, M)
      | some (.inl (pc', lo', st', M')) => nv_go ct T τ sm sp n d fs mid pc' lo' st' M'
      | some (.inr (.inl (y, As, rest))) => match d with
        | 0 => (d, fs, mid, pc, lo, st, M)
        | d' + 1 => nv_go ct T τ sm sp n d' ((mid, pc + 3, lo, rest) :: fs) y 0 (la 0 As) [] M
      | some (.inr (.inr r)) => match fs with
        | [] => (d, fs, mid, pc, lo, st, M)
        | (mid', pc', lo', st') :: fs' => nv_go ct T τ sm sp n (d + 1) fs' mid' pc' lo' (psh r st') M
def nv_S (τ : Nat → Nat) (S : aSt) : aSt := (S.1, nv_f τ S.2.1, S.2.2.1, S.2.2.2.1, nv_l τ S.2.2.2.2.1, nv_t τ S.2.2.2.2.2.1, S.2.2.2.2.2.2)
/-- the memory's table stays -/
theorem nv_1A {T : nv_T} {τ : Nat → Nat} {o : aO} {lo : aL} {st : List aV} {M : aM} {pc' : Nat} {lo' : aL} {st' : List aV} {M' : aM} (hA : nv_A T τ M) (h : nv_1 T τ o lo st M = some (.inl (pc', lo', st', M'))) : nv_A T τ M' := by
  unfold nv_1 at h
  split at h
  · cases h; exact hA
  · unfold j_iload at h; split at h <;> cases h; exact hA
  · unfold j_aload at h; split at h <;> cases h; exact hA
  · unfold j_istore at h; split at h <;> cases h; exact hA
  · unfold j_astore at h; split at h <;> cases h; exact hA
  · unfold j_iinc at h; split at h <;> cases h; exact hA
  · unfold j_bin at h; split at h <;> cases h; exact hA
  · unfold j_div at h
    split at h
    · split at h <;> cases h; exact hA
    · cases h
  · unfold j_un at h; split at h <;> cases h; exact hA
  · cases h; exact hA
  · unfold j_if at h; split at h <;> cases h; exact hA
  · unfold j_ifc at h; split at h <;> cases h; exact hA
  · split at h
    · obtain ⟨_, h⟩ := bifE2 h
      split at h
      · cases h; exact hA
      · cases h; exact hA
      · split at h <;> cases h; exact hA
    · cases h
  · split at h
    · obtain ⟨_, h⟩ := bifE2 h
      cases h; exact hA
    · cases h
  · split at h
    · obtain ⟨_, h⟩ := bifE2 h
      cases h; exact hA
    · cases h
  · rcases st with _ | ⟨v, s⟩
    · cases h
    · rcases v with x | x | _ | a <;> cases h <;> exact hA
  · rcases st with _ | ⟨v, s⟩
    · cases h
    · rcases v with x | x | _ | a <;> cases h <;> exact hA
  · unfold j_ifnull at h; split at h <;> cases h <;> exact hA
  · obtain ⟨_, h⟩ := bifE2 h
    cases h; exact hA
  · unfold j_iret at h
    split at h
    · obtain ⟨_, h⟩ := bifE2 h
      cases h
    · cases h
  · unfold j_vret at h; split at h <;> cases h
  · unfold j_aret at h; split at h <;> cases h
  · split at h
    · obtain ⟨_, h⟩ := bifE2 h
      cases h
    · cases h
  · unfold j_calls at h
    obtain ⟨_, h⟩ := bifE2 h
    cases h
  · cases h
theorem nv_goA {ct : Nat → Nat → Option aO} {T : nv_T} {τ : Nat → Nat} {sm sp : Nat} : ∀ {n d : Nat} {fs : List aFr} {mid pc : Nat} {lo : aL} {st : List aV} {M : aM}, nv_A T τ M → nv_A T τ (nv_go ct T τ sm sp n d fs mid pc lo st M).2.2.2.2.2.2
  | 0, _, _, _, _, _, _, _, h => h
  | n + 1, d, fs, mid, pc, lo, st, M, h => by
    rw [nv_go]
    cases hb : (Nat.beq pc sp && Nat.beq mid sm) with
    | true => exact h
    | false =>
      simp only [cond_false]
      cases hi : ct mid pc with
      | none => exact h
      | some o =>
        simp only
        split
        · exact h
        · rename_i he
          exact nv_goA (nv_1A h he)
        · split
          · exact h
          · exact nv_goA h
        · split
          · exact h
          · exact nv_goA h
theorem nv_go_ok {cd : Nat → Nat → Option aI} {ct : Nat → Nat → Option aO} (hct : ∀ m p o, ct m p = some o → cd m p = some (semO o)) {T : nv_T} {τ : Nat → Nat} {sm sp : Nat} {Q : aQ} : ∀ {n d : Nat} {fs : List aFr} {mid pc : Nat} {lo : aL} {st : List aV} {M : aM}, nv_A T τ M → wpS cd (nv_S τ (nv_go ct T τ sm sp n d fs mid pc lo st M)) Q → wpS cd (nv_S τ (d, fs, mid, pc, lo, st, M)) Q
  | 0, _, _, _, _, _, _, _, _, h => h
  | n + 1, d, fs, mid, pc, lo, st, M, hA, h => by
    rw [nv_go] at h
    cases hb : (Nat.beq pc sp && Nat.beq mid sm) with
    | true => rw [hb] at h; exact h
    | false =>
      rw [hb] at h
      simp only [cond_false] at h
      cases hi : ct mid pc with
      | none => rw [hi] at h; exact h
      | some o =>
        rw [hi] at h
        simp only at h
        split at h
        · exact h
        · rename_i he
          exact wp_step (hct _ _ _ hi) (nv_1ok hA he) (nv_go_ok hct (nv_1A hA he) h)
        · rename_i y As rest he
          split at h
          · exact h
          · refine wp_call (hct _ _ _ hi) (nv_1ok hA he) ?_
            have := nv_go_ok hct hA h
            unfold nv_S at this
            rw [← nv_la] at this
            exact this
        · rename_i r he
          split at h
          · exact h
          · rename_i mid' pc' lo' st' fs'
            refine wp_ret (hct _ _ _ hi) (nv_1ok hA he) ?_
            have := nv_go_ok hct hA h
            unfold nv_S at this
            rw [← nv_psh] at this
            exact this
/-- on, till the place told -/
theorem nv_cut {cd : Nat → Nat → Option aI} {ct : Nat → Nat → Option aO} (hct : ∀ m p o, ct m p = some o → cd m p = some (semO o)) (T : nv_T) {τ : Nat → Nat} (sm sp n : Nat) {d : Nat} {fs : List aFr} {mid pc : Nat} {lo : aL} {st : List aV} {M : aM} {Q : aQ} {S' : aSt} (hA : nv_A T τ M) (h : nv_go ct T τ sm sp n d fs mid pc lo st M = S') (g : wpS cd (nv_S τ S') Q) : wpS cd (nv_S τ (d, fs, mid, pc, lo, st, M)) Q := nv_go_ok hct (sm := sm) (sp := sp) (n := n) hA (by rw [h]; exact g)
/-- a call: its contract, and how it goes on -/
theorem nv_call {cd : Nat → Nat → Option aI} {τ : Nat → Nat} {d mid pc y : Nat} {fs : List aFr} {lo : aL} {st As : List aV} {M : aM} {Q Qc : aQ} (h : wpS cd (d, [], y, 0, nv_l τ (la 0 As), [], M) Qc) (hc : ∀ r M', Qc r M' → ∃ r', r = Option.map (nv_v τ) r' ∧ wpS cd (nv_S τ (d + 1, fs, mid, pc, lo, psh r' st, M')) Q) : wpS cd (nv_S τ (d, (mid, pc, lo, st) :: fs, y, 0, la 0 As, [], M)) Q := by
  refine wp_fins (g := (mid, pc, nv_l τ lo, nv_t τ st)) h (fun r M' hr => ?_)
  obtain ⟨r', e, hw⟩ := hc r M' hr
  rw [e]
  show wpS cd (d + 1, nv_f τ fs, mid, pc, nv_l τ lo, psh (r'.map (nv_v τ)) (nv_t τ st), M') Q
  rw [nv_psh]
  exact hw
theorem nv_calli {cd : Nat → Nat → Option aI} {τ : Nat → Nat} {d mid pc y : Nat} {fs : List aFr} {lo : aL} {st As : List aV} {M : aM} {Q : aQ} {Qc : Int32 → aM → Prop} (h : wpS cd (d, [], y, 0, nv_l τ (la 0 As), [], M) (fun r M' => ∃ x, r = some (.inl x) ∧ Qc x M')) (hc : ∀ x M', Qc x M' → wpS cd (nv_S τ (d + 1, fs, mid, pc, lo, .inl x :: st, M')) Q) : wpS cd (nv_S τ (d, (mid, pc, lo, st) :: fs, y, 0, la 0 As, [], M)) Q := nv_call h (fun r M' ⟨x, e, hq⟩ => ⟨some (.inl x), e, hc x M' hq⟩)
theorem nv_callv {cd : Nat → Nat → Option aI} {τ : Nat → Nat} {d mid pc y : Nat} {fs : List aFr} {lo : aL} {st As : List aV} {M : aM} {Q : aQ} {Qc : aM → Prop} (h : wpS cd (d, [], y, 0, nv_l τ (la 0 As), [], M) (fun r M' => r = none ∧ Qc M')) (hc : ∀ M', Qc M' → wpS cd (nv_S τ (d + 1, fs, mid, pc, lo, st, M')) Q) : wpS cd (nv_S τ (d, (mid, pc, lo, st) :: fs, y, 0, la 0 As, [], M)) Q := nv_call h (fun r M' ⟨e, hq⟩ => ⟨none, e, hc M' hq⟩)
/-- branches -/
theorem nv_if {cd : Nat → Nat → Option aI} {ct : Nat → Nat → Option aO} (hct : ∀ m p o, ct m p = some o → cd m p = some (semO o)) {τ : Nat → Nat} {d mid pc t nx f e : Nat} {c : Int32} {fs : List aFr} {lo : aL} {st : List aV} {M : aM} {Q : aQ} {v : Int32} (b : Bool) (hi : ct mid pc = some (10, t, nx, f, e, c)) (hb : cmp0 f v = b) (h : wpS cd (nv_S τ (d, fs, mid, bif b then t else nx, lo, st, M)) Q) : wpS cd (nv_S τ (d, fs, mid, pc, lo, .inl v :: st, M)) Q := by
  subst hb
  exact wp_step (hct _ _ _ hi) rfl h
theorem nv_ifc {cd : Nat → Nat → Option aI} {ct : Nat → Nat → Option aO} (hct : ∀ m p o, ct m p = some o → cd m p = some (semO o)) {τ : Nat → Nat} {d mid pc t nx f e : Nat} {c : Int32} {fs : List aFr} {lo : aL} {st : List aV} {M : aM} {Q : aQ} {x y : Int32} (b : Bool) (hi : ct mid pc = some (11, t, nx, f, e, c)) (hb : cmpf f x y = b) (h : wpS cd (nv_S τ (d, fs, mid, bif b then t else nx, lo, st, M)) Q) : wpS cd (nv_S τ (d, fs, mid, pc, lo, .inl y :: .inl x :: st, M)) Q := by
  subst hb
  exact wp_step (hct _ _ _ hi) rfl h
/-- array accesses -/
theorem nv_ald {cd : Nat → Nat → Option aI} {ct : Nat → Nat → Option aO} (hct : ∀ m p o, ct m p = some o → cd m p = some (semO o)) {T : nv_T} {τ : Nat → Nat} {d mid pc nx kd f g a n : Nat} {c : Int32} {fs : List aFr} {lo : aL} {st : List aV} {M : aM} {Q : aQ} {i : Int32} (hA : nv_A T τ M) (hi : ct mid pc = some (15, nx, kd, f, g, c)) (hk : T.1 a = kd + 1) (hn : T.2.1 a = n + 1) (hin : inb i n = true) (h : wpS cd (nv_S τ (d, fs, mid, nx, lo, .inl (a_I M (nv_s τ a) i.toNatClampNeg) :: st, M)) Q) : wpS cd (nv_S τ (d, fs, mid, pc, lo, .inl i :: .inr (.inr (some a)) :: st, M)) Q := by
  refine wp_step (hct _ _ _ hi) ?_ h
  show (bif (Nat.blt (nv_s τ a) (a_n M) && Nat.beq (a_K M (nv_s τ a)) kd) && inb i (a_N M (nv_s τ a)) then _ else none) = _
  rw [nv_kd hA (by rw [hk]; exact Nat.beq_refl _), hA.2.1 a n hn, hin]
  rfl
theorem nv_ast {cd : Nat → Nat → Option aI} {ct : Nat → Nat → Option aO} (hct : ∀ m p o, ct m p = some o → cd m p = some (semO o)) {T : nv_T} {τ : Nat → Nat} {d mid pc nx kd f g a n : Nat} {c : Int32} {fs : List aFr} {lo : aL} {st : List aV} {M : aM} {Q : aQ} {i x : Int32} (hA : nv_A T τ M) (hi : ct mid pc = some (16, nx, kd, f, g, c)) (hk : T.1 a = kd + 1) (hn : T.2.1 a = n + 1) (hin : inb i n = true) (h : wpS cd (nv_S τ (d, fs, mid, nx, lo, st, s_I M (nv_s τ a) i.toNatClampNeg (astf f x))) Q) : wpS cd (nv_S τ (d, fs, mid, pc, lo, .inl x :: .inl i :: .inr (.inr (some a)) :: st, M)) Q := by
  refine wp_step (hct _ _ _ hi) ?_ h
  show (bif (Nat.blt (nv_s τ a) (a_n M) && Nat.beq (a_K M (nv_s τ a)) kd) && inb i (a_N M (nv_s τ a)) then _ else none) = _
  rw [nv_kd hA (by rw [hk]; exact Nat.beq_refl _), hA.2.1 a n hn, hin]
  rfl
/-- a boolean field -/
theorem nv_putb {cd : Nat → Nat → Option aI} {ct : Nat → Nat → Option aO} (hct : ∀ m p o, ct m p = some o → cd m p = some (semO o)) {T : nv_T} {τ : Nat → Nat} {d mid pc nx ci k a b : Nat} {c : Int32} {fs : List aFr} {lo : aL} {st : List aV} {M : aM} {Q : aQ} {x : Int32} (hA : nv_A T τ M) (hi : ct mid pc = some (13, nx, ci, k, b, c)) (hk : T.1 a = ci + 1) (hx : isB x = true) (h : wpS cd (nv_S τ (d, fs, mid, nx, lo, st, s_I M (nv_s τ a) k x)) Q) : wpS cd (nv_S τ (d, fs, mid, pc, lo, .inl x :: .inr (.inr (some a)) :: st, M)) Q := by
  refine wp_step (hct _ _ _ hi) ?_ h
  show (bif (Nat.blt (nv_s τ a) (a_n M) && Nat.beq (a_K M (nv_s τ a)) ci) && (!nB b || isB x) then _ else none) = _
  rw [nv_kd hA (by rw [hk]; exact Nat.beq_refl _), hx, Bool.or_true]
  rfl
/-- the last frame answers -/
theorem nv_iret {cd : Nat → Nat → Option aI} {ct : Nat → Nat → Option aO} (hct : ∀ m p o, ct m p = some o → cd m p = some (semO o)) {τ : Nat → Nat} {d mid pc b f g h' : Nat} {c : Int32} {lo : aL} {M : aM} {Q : aQ} {v : Int32} (hi : ct mid pc = some (24, b, f, g, h', c)) (hb : (!nB b || isB v) = true) (h : Q (some (.inl v)) M) : wpS cd (nv_S τ (d, [], mid, pc, lo, [.inl v], M)) Q := by
  refine wp_ret (hct _ _ _ hi) ?_ h
  show (bif !nB b || isB v then _ else _) = _
  rw [hb]
  rfl
theorem nv_vret {cd : Nat → Nat → Option aI} {ct : Nat → Nat → Option aO} (hct : ∀ m p o, ct m p = some o → cd m p = some (semO o)) {τ : Nat → Nat} {d mid pc b f g h' : Nat} {c : Int32} {lo : aL} {M : aM} {Q : aQ} (hi : ct mid pc = some (25, b, f, g, h', c)) (h : Q none M) : wpS cd (nv_S τ (d, [], mid, pc, lo, [], M)) Q := wp_ret (hct _ _ _ hi) rfl h

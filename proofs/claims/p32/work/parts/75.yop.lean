/-- every instruction without a call goes on at one of the states that yop1 tells -/
theorem fv0 {M : aM} {a k : Nat} : fv M a k 0 = .inl (a_I M a k) := rfl
set_option maxHeartbeats 2000000 in
theorem yop1_a {R : yR} {ms : Nat → Nat → Bool} {rg : Nat → Nat} {M0 : aM} {op nx a b c : Nat} {x : Int32} {E : yE} {G : List Nat} {B : yB} {pc : Nat} {l : yL} {s : List yV} {L : List yP} {ρ : List Int} {τ : List Nat} {lo : aL} {st : List aV} {M : aM} (ho : op < 12) (e : yop1 R ms (op, nx, a, b, c, x) E G B l s = some L) (h : gP R ms rg M0 (E, G, B, pc, l, s) ρ τ lo st M) : Sim R ms rg M0 (semO (op, nx, a, b, c, x)) ρ τ lo st M L := by
  have h' := h
  obtain ⟨⟨h1, h2, h3⟩, h4, h5, h6, h7⟩ := h'
  simp only at h1 h2 h4 h6 h7
  match op, ho with
  | 0, _ =>
    have e : some _ = some L := e
    cases e
    exact sim_1 rfl (gP_int h h7 ⟨[], by simpa using h1, 0, by simpa using h3, by simp⟩)
  | 1, _ =>
    change (match ylk a l with
      | some (.inl q) => some [(E, G, B, nx, l, .inl q :: s)]
      | _ => none) = some L at e
    split at e
    · rename_i q hq
      cases e
      obtain ⟨v, v1, v2⟩ := h6 _ _ hq
      obtain ⟨y, rfl⟩ := inv_int v2
      exact sim_1 (lo' := lo) (st' := .inl y :: st) (M' := M) (show j_iload nx a lo st M = _ by unfold j_iload; rw [v1]) (gP_self ⟨⟨h1, h2, h3⟩, h4, h5, h6, v2, h7⟩)
    · cases e
  | 2, _ =>
    change (match ylk a l with
      | some (.inr (.inr (some j))) => some [(E, G, B, nx, l, .inr (.inr (some j)) :: s)]
      | _ => none) = some L at e
    split at e
    · rename_i j hq
      cases e
      obtain ⟨v, v1, v2⟩ := h6 _ _ hq
      obtain ⟨y, rfl, hy⟩ := inv_ref v2
      exact sim_1 (lo' := lo) (st' := .inr (.inr (some y)) :: st) (M' := M) (show j_aload nx a lo st M = _ by unfold j_aload; rw [v1]) (gP_self ⟨⟨h1, h2, h3⟩, h4, h5, h6, v2, h7⟩)
    · cases e
  | 3, _ =>
    unfold yop1 at e
    simp only at e
    split at e
    · rename_i q t
      obtain ⟨e1, e2⟩ := bifE e
      subst e2
      obtain ⟨v, w, rfl, v1, v2⟩ := gK_cons h7
      obtain ⟨y, rfl⟩ := inv_int v1
      exact sim_1 (lo' := (a, .inl y) :: rml a lo) (st' := w) (M' := M) rfl (gP_self ⟨⟨h1, h2, h3⟩, h4, h5, gL_st h6 e1 v1, v2⟩)
    · cases e
  | 4, _ =>
    unfold yop1 at e
    simp only at e
    split at e
    · rename_i q t
      obtain ⟨e1, e2⟩ := bifE e
      subst e2
      obtain ⟨v, w, rfl, v1, v2⟩ := gK_cons h7
      obtain ⟨y, rfl, hy⟩ := inv_ref v1
      exact sim_1 (lo' := (a, .inr (.inr (some y))) :: rml a lo) (st' := w) (M' := M) rfl (gP_self ⟨⟨h1, h2, h3⟩, h4, h5, gL_st h6 e1 v1, v2⟩)
    · cases e
  | 5, _ =>
    change (match ylk a l with
      | some (.inl q) => match y_bin 0 E q (0, x.toInt) with
        | some r => bif yln l then some [(r.1, G, B, nx, (a, .inl r.2) :: yrm a l, s)] else none
        | none => none
      | _ => none) = some L at e
    split at e
    · rename_i q hq
      split at e
      · rename_i r hr
        obtain ⟨e1, e2⟩ := bifE e
        subst e2
        obtain ⟨v, v1, v2⟩ := h6 _ _ hq
        obtain ⟨y, rfl⟩ := inv_int v2
        obtain ⟨ρ2, g1, z, g2, g3⟩ := y_bin_ok (f := 0) (E' := r.1) (r := r.2) hr h1 v2 (yv0 (τ := τ) h3 x)
        refine sim_1 (lo' := (a, .inl (y + x)) :: rml a lo) (st' := st) (M' := M) (show j_iinc nx a x lo st M = _ by unfold j_iinc; rw [v1]) ⟨ρ2, [], ⟨g1, by simpa using h2, app_at h3⟩, gB_mono ρ2 [] h4, h5, gL_st (gL_mono ρ2 [] h6) e1 ⟨z, g2, g3⟩, gK_mono ρ2 [] h7⟩
      · cases e
    · cases e
  | 6, _ =>
    unfold yop1 at e
    simp only at e
    split at e
    · rename_i t p w
      unfold ybin at e
      split at e
      · rename_i r hr
        cases e
        obtain ⟨v, w1, rfl, v1, v2⟩ := gK_cons h7
        obtain ⟨u, w2, rfl, u1, u2⟩ := gK_cons v2
        obtain ⟨y1, rfl⟩ := inv_int v1
        obtain ⟨y2, rfl⟩ := inv_int u1
        exact sim_1 (lo' := lo) (st' := .inl (binf a y2 y1) :: w2) (M' := M) rfl (gP_int h u2 (y_bin_ok (E' := r.1) (r := r.2) hr h1 u1 v1))
      · cases e
    · cases e
  | 7, _ =>
    unfold yop1 at e
    simp only at e
    split at e
    · rename_i t p w
      unfold ybin at e
      split at e
      · rename_i r hr
        cases e
        obtain ⟨v, w1, rfl, v1, v2⟩ := gK_cons h7
        obtain ⟨u, w2, rfl, u1, u2⟩ := gK_cons v2
        obtain ⟨y1, rfl⟩ := inv_int v1
        obtain ⟨y2, rfl⟩ := inv_int u1
        obtain ⟨hn, hi⟩ := y_div_ok (E' := r.1) (r := r.2) hr h1 u1 v1
        exact sim_1 (lo' := lo) (st' := .inl (divf a y2 y1) :: w2) (M' := M) (show (if y1 = 0 then none else _) = _ by rw [if_neg hn]) (gP_int h u2 hi)
      · cases e
    · cases e
  | 8, _ =>
    unfold yop1 at e
    simp only at e
    split at e
    · rename_i p w
      unfold ybin at e
      split at e
      · rename_i r hr
        cases e
        obtain ⟨v, w1, rfl, v1, v2⟩ := gK_cons h7
        obtain ⟨y1, rfl⟩ := inv_int v1
        exact sim_1 (lo' := lo) (st' := .inl (unf a y1) :: w1) (M' := M) rfl (gP_int h v2 (y_un_ok (E' := r.1) (r := r.2) hr h1 v1))
      · cases e
    · cases e
  | 9, _ =>
    have e : some _ = some L := e
    cases e
    exact sim_1 (lo' := lo) (st' := st) (M' := M) rfl (gP_self h)
  | 10, _ =>
    unfold yop1 at e
    simp only at e
    split at e
    · rename_i p w
      cases e
      obtain ⟨v, w1, rfl, v1, v2⟩ := gK_cons h7
      obtain ⟨y1, rfl⟩ := inv_int v1
      obtain ⟨P, p1, p2, p3⟩ := br_ok (f := b) (t := nx) (nx := a) (y := 0) h v2 v1 (yv0 h3 0)
      rw [← cmp0_eq] at p2
      exact ⟨_, lo, w1, M, rfl, P, p1, p2, p3⟩
    · cases e
  | 11, _ =>
    unfold yop1 at e
    simp only at e
    split at e
    · rename_i y p w
      cases e
      obtain ⟨v, w1, rfl, v1, v2⟩ := gK_cons h7
      obtain ⟨u, w2, rfl, u1, u2⟩ := gK_cons v2
      obtain ⟨y1, rfl⟩ := inv_int v1
      obtain ⟨y2, rfl⟩ := inv_int u1
      obtain ⟨P, p1, p2, p3⟩ := br_ok (f := b) (t := nx) (nx := a) h u2 u1 v1
      exact ⟨_, _, _, _, rfl, P, p1, p2, p3⟩
    · cases e

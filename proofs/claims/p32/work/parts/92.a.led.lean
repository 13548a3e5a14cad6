/-! The law's own led, with a fuel that is chosen: printed by wip/gen/ledp.py -/
theorem exl_mono {cd : Nat → Nat → Option aI} {stop : Nat} : ∀ (f d mid pc : Nat) (lo : aL) (st : List aV) (M : aM) (q : (Option aV × aM) ⊕ (aL × List aV × aM)), exl cd stop f d mid pc lo st M = some q → exl cd stop (f + 1) d mid pc lo st M = some q := by
  intro f
  induction f with
  | zero => intro d mid pc lo st M q h; cases h
  | succ f ih =>
    intro d mid pc lo st M q h
    rw [exl] at h ⊢
    cases hb : Nat.beq pc stop with
    | true => rw [hb] at h; exact h
    | false =>
      rw [hb] at h
      simp only [cond_false] at h ⊢
      cases hi : cd mid pc with
      | none => rw [hi] at h; cases h
      | some i =>
        rw [hi] at h
        simp only at h ⊢
        split at h
        · cases h
        · rename_i he
          try rw [he]
          exact ih _ _ _ _ _ _ _ h
        · rename_i y As rest he
          try rw [he]
          try simp only
          split at h
          · cases h
          · rename_i d'
            split at h
            · cases h
            · rename_i r1 M1 he1
              have e1 := exec_mono _ _ _ _ _ _ _ _ he1
              have e2 := ih _ _ _ _ _ _ _ h
              show (match exec cd (f + 1) d' y 0 (la 0 As) [] M with
                | none => none
                | some (r, M') => exl cd stop (f + 1) (d' + 1) mid (pc + 3) lo (psh r rest) M') = _
              rw [e1]
              exact e2
        · rename_i r1 he
          try rw [he]
          exact h
theorem exl_le {cd : Nat → Nat → Option aI} {stop f f' d mid pc : Nat} {lo : aL} {st : List aV} {M : aM} {q : (Option aV × aM) ⊕ (aL × List aV × aM)} (hf : f ≤ f') (h : exl cd stop f d mid pc lo st M = some q) : exl cd stop f' d mid pc lo st M = some q := by
  obtain ⟨k, rfl⟩ : ∃ k, f' = f + k := ⟨f' - f, by omega⟩
  clear hf
  induction k with
  | zero => exact h
  | succ k ih => exact exl_mono _ _ _ _ _ _ _ _ ih
def wpl (cd : Nat → Nat → Option aI) (stop d mid pc : Nat) (lo : aL) (st : List aV) (M : aM) (Q : (Option aV × aM) ⊕ (aL × List aV × aM) → Prop) : Prop := ∃ f q, exl cd stop f d mid pc lo st M = some q ∧ Q q
theorem wpl_step {cd : Nat → Nat → Option aI} {stop d mid pc : Nat} {lo : aL} {st : List aV} {M : aM} {Q : (Option aV × aM) ⊕ (aL × List aV × aM) → Prop} {i : aI} {pc' : Nat} {lo' : aL} {st' : List aV} {M' : aM} (hne : Nat.beq pc stop = false) (hi : cd mid pc = some i) (he : i lo st M = some (.inl (pc', lo', st', M'))) (h : wpl cd stop d mid pc' lo' st' M' Q) : wpl cd stop d mid pc lo st M Q := by
  obtain ⟨f, q, h1, h2⟩ := h
  refine ⟨f + 1, q, ?_, h2⟩
  unfold exl
  rw [hne, hi]
  simp only [cond_false, he]
  exact h1
theorem wpl_call {cd : Nat → Nat → Option aI} {stop d mid pc : Nat} {lo : aL} {st : List aV} {M : aM} {Q : (Option aV × aM) ⊕ (aL × List aV × aM) → Prop} {i : aI} {y : Nat} {As rest : List aV} (hne : Nat.beq pc stop = false) (hi : cd mid pc = some i) (he : i lo st M = some (.inr (.inl (y, As, rest)))) (h : wp cd d y 0 (la 0 As) [] M (fun r M' => wpl cd stop (d + 1) mid (pc + 3) lo (psh r rest) M' Q)) : wpl cd stop (d + 1) mid pc lo st M Q := by
  obtain ⟨f1, r, M1, h1, f2, q, h2, h3⟩ := h
  refine ⟨max f1 f2 + 1, q, ?_, h3⟩
  unfold exl
  rw [hne, hi]
  simp only [cond_false, he]
  rw [exec_le (Nat.le_max_left f1 f2) h1]
  exact exl_le (Nat.le_max_right f1 f2) h2
theorem wpl_stop {cd : Nat → Nat → Option aI} {stop d mid : Nat} {lo : aL} {st : List aV} {M : aM} {Q : (Option aV × aM) ⊕ (aL × List aV × aM) → Prop} (h : Q (.inr (lo, st, M))) : wpl cd stop d mid stop lo st M Q := by
  refine ⟨1, _, ?_, h⟩
  unfold exl
  rw [Nat.beq_refl]
  rfl
theorem wpl_ret {cd : Nat → Nat → Option aI} {stop d mid pc : Nat} {lo : aL} {st : List aV} {M : aM} {Q : (Option aV × aM) ⊕ (aL × List aV × aM) → Prop} {i : aI} {r : Option aV} (hne : Nat.beq pc stop = false) (hi : cd mid pc = some i) (he : i lo st M = some (.inr (.inr r))) (h : Q (.inl (r, M))) : wpl cd stop d mid pc lo st M Q := by
  refine ⟨1, _, ?_, h⟩
  unfold exl
  rw [hne, hi]
  simp only [cond_false, he]
theorem wpl_nv {cd : Nat → Nat → Option aI} (hct : ∀ m p o, ct m p = some o → cd m p = some (semO o)) {T : nv_T} {τ : Nat → Nat} {stop d mid pc : Nat} {lo : aL} {st : List aV} {M : aM} {Q : (Option aV × aM) ⊕ (aL × List aV × aM) → Prop} {o : aO} {pc' : Nat} {lo' : aL} {st' : List aV} {M' : aM} (hA : nv_A T τ M) (hne : Nat.beq pc stop = false) (ho : ct mid pc = some o) (h1 : nv_1 T τ o lo st M = some (.inl (pc', lo', st', M'))) (h : wpl cd stop d mid pc' (nv_l τ lo') (nv_t τ st') M' Q) : wpl cd stop d mid pc (nv_l τ lo) (nv_t τ st) M Q := wpl_step hne (hct _ _ _ ho) (nv_1ok hA h1) h
theorem wpl_if {cd : Nat → Nat → Option aI} (hct : ∀ m p o, ct m p = some o → cd m p = some (semO o)) {τ : Nat → Nat} {stop d mid pc t nx f e : Nat} {c : Int32} {lo : aL} {st : List aV} {M : aM} {Q : (Option aV × aM) ⊕ (aL × List aV × aM) → Prop} {v : Int32} (b : Bool) (hne : Nat.beq pc stop = false) (hi : ct mid pc = some (10, t, nx, f, e, c)) (hb : cmp0 f v = b) (h : wpl cd stop d mid (bif b then t else nx) (nv_l τ lo) (nv_t τ st) M Q) : wpl cd stop d mid pc (nv_l τ lo) (nv_t τ (.inl v :: st)) M Q := by
  refine wpl_step hne (hct _ _ _ hi) (pc' := bif b then t else nx) (lo' := nv_l τ lo) (st' := nv_t τ st) (M' := M) ?_ h
  show j_if (cmp0 f) t nx (nv_l τ lo) (.inl v :: nv_t τ st) M = _
  unfold j_if
  simp only [hb]
theorem Fr_nil {R : yR} {rg : Nat → Nat} {M M' : aM} (h : Fr R (msL []) rg M M') : M' = M := by
  obtain ⟨⟨h1, h2, h3⟩, h4, h5, h6⟩ := h
  have hI : a_I M' = a_I M := funext fun a => funext fun k => (h6 a k rfl).1
  have hJ : a_J M' = a_J M := funext fun a => funext fun k => (h6 a k rfl).2.1
  have hP : a_P M' = a_P M := funext fun a => funext fun k => (h6 a k rfl).2.2
  exact Prod.ext h1 (Prod.ext h2 (Prod.ext h3 (Prod.ext h4 (Prod.ext h5 (Prod.ext hI (Prod.ext hJ hP))))))
theorem oXhard {cd : Nat → Nat → Option aI} (hct : ∀ m p o, ct m p = some o → cd m p = some (semO o)) {b : Bool} {rg : Nat → Nat} {M : aM} (hL : LB b rg M) (x1 : Int32) {d : Nat} (hd : 1 ≤ d) : wpS cd (d, [], 28, 0, la 0 [.inr (.inr (some 19)), .inr (.inr (some (cur b))), .inl x1], [], M) (fun r M' => ∃ y, r = some (.inl y) ∧ M' = M ∧ -1 ≤ y.toInt ∧ y.toInt ≤ 29) := by
  have hc : cur b < 137 := by cases b <;> decide
  refine wpS_mono (cc_Xhard hct (LB_sgl hL) (ms := msT) (by decide) [0, x1.toInt] [19, cur b] _ Fr_rf (ent_gam (s := [.inr (.inr (some 0)), .inr (.inr (some 1)), .inl (1, 0)]) rfl (gE_c ⟨by decide, by decide⟩ (gE_c (i32_bd x1) gE_n)) rfl (gG_c ⟨by decide, lo_n hL (by decide), rg_at hL (by decide) (fun b => by cases b <;> rfl)⟩ (gG_c ⟨by decide, lo_n hL hc, by rw [hL.2.1 (cur b) hc]; cases b <;> rfl⟩ gG_n)) gB_n hL.1 hd ⟨rfl, ⟨rfl, ⟨⟨_, rfl, iz⟩, trivial⟩⟩⟩ rfl)) (fun r M' h => ?_)
  obtain ⟨q1, q2, a, ha, hp⟩ := h
  have ha := List.mem_singleton.mp ha
  subst ha
  have hp := hp.1
  rcases r with _ | (y | y)
  · exact hp.elim
  · exact ⟨y, rfl, Fr_nil q2, hp.1, hp.2⟩
  · exact (show False from hp).elim
/-- the class's led up to its throw -/
theorem x_led9 {cd : Nat → Nat → Option aI} (hct : ∀ m p o, ct m p = some o → cd m p = some (semO o)) {b : Bool} {rg : Nat → Nat} {M : aM} (hL : LB b rg M) (x1 : Int32) {d : Nat} : wpl cd 28 (d + 2) 135 0 (la 0 [.inr (.inr (some 0)), .inl x1]) [] M (fun q => (∃ lo, q = .inr (lo, [], M)) ∨ ∃ y : Int32, q = .inl (some (.inl y), M)) := by
  have hA : nv_A (nvD (cur b) (tld b)) id M := LB_nvD hL
  have tail : ∀ y : Int32, wpl cd 28 (d + 2) 135 23 (nv_l id [(0, .inr (.inr (some 0))), (1, .inl x1)]) (nv_t id [.inl y]) M (fun q => (∃ lo, q = .inr (lo, [], M)) ∨ ∃ y : Int32, q = .inl (some (.inl y), M)) := fun y => by
    refine wpl_nv hct hA rfl rfl (pc' := 24) (lo' := [(2, .inl y), (0, .inr (.inr (some 0))), (1, .inl x1)]) (st' := []) rfl ?_
    refine wpl_nv hct hA rfl rfl (pc' := 25) (lo' := [(2, .inl y), (0, .inr (.inr (some 0))), (1, .inl x1)]) (st' := [.inl y]) rfl ?_
    by_cases c : 0 ≤ y.toInt
    · refine wpl_if hct true rfl rfl (zcT4 rfl c) ?_
      refine wpl_nv hct hA rfl rfl (pc' := 37) (lo' := [(2, .inl y), (0, .inr (.inr (some 0))), (1, .inl x1)]) (st' := [.inl y]) rfl ?_
      exact wpl_ret rfl (hct _ _ _ rfl) rfl (Or.inr ⟨y, rfl⟩)
    · refine wpl_if hct false rfl rfl (zcF4 rfl (by omega)) ?_
      exact wpl_stop (Or.inl ⟨_, rfl⟩)
  show wpl cd 28 (d + 2) 135 0 (nv_l id (la 0 [.inr (.inr (some 0)), .inl x1])) (nv_t id []) M _
  refine wpl_nv hct hA rfl rfl (pc' := 1) (lo' := [(0, .inr (.inr (some 0))), (1, .inl x1)]) (st' := [.inr (.inr (some 0))]) rfl ?_
  refine wpl_nv hct hA rfl rfl (pc' := 4) (lo' := [(0, .inr (.inr (some 0))), (1, .inl x1)]) (st' := [.inl (a_I M 0 8)]) rfl ?_
  by_cases c : (a_I M 0 8).toInt = 0
  · refine wpl_if hct true rfl rfl (zcT1 rfl c) ?_
    refine wpl_nv hct hA rfl rfl (pc' := 23) (lo' := [(0, .inr (.inr (some 0))), (1, .inl x1)]) (st' := [.inl (-1)]) rfl ?_
    exact tail (-1)
  · refine wpl_if hct false rfl rfl (zcF1 rfl c) ?_
    refine wpl_nv hct hA rfl rfl (pc' := 8) (lo' := [(0, .inr (.inr (some 0))), (1, .inl x1)]) (st' := [.inr (.inr (some 0))]) rfl ?_
    refine wpl_nv hct hA rfl rfl (pc' := 11) (lo' := [(0, .inr (.inr (some 0))), (1, .inl x1)]) (st' := [.inr (.inr (some 19))]) rfl ?_
    refine wpl_nv hct hA rfl rfl (pc' := 12) (lo' := [(0, .inr (.inr (some 0))), (1, .inl x1)]) (st' := [.inr (.inr (some 0)), .inr (.inr (some 19))]) rfl ?_
    refine wpl_nv hct hA rfl rfl (pc' := 15) (lo' := [(0, .inr (.inr (some 0))), (1, .inl x1)]) (st' := [.inr (.inr (some (cur b))), .inr (.inr (some 19))]) rfl ?_
    refine wpl_nv hct hA rfl rfl (pc' := 16) (lo' := [(0, .inr (.inr (some 0))), (1, .inl x1)]) (st' := [.inl x1, .inr (.inr (some (cur b))), .inr (.inr (some 19))]) rfl ?_
    have hk : nv_1 (nvD (cur b) (tld b)) id (27, 28, 3, 2, 5, 0) [(0, .inr (.inr (some 0))), (1, .inl x1)] [.inl x1, .inr (.inr (some (cur b))), .inr (.inr (some 19))] M = some (.inr (.inl (28, [.inr (.inr (some 19)), .inr (.inr (some (cur b))), .inl x1], []))) := rfl
    have hcu : nv_s id (cur b) = cur b := by cases b <;> rfl
    refine wpl_call rfl (hct _ _ _ rfl) (y := 28) (As := [.inr (.inr (some 19)), .inr (.inr (some (cur b))), .inl x1]) (rest := []) (by
      have q := nv_1ok hA hk
      rw [show nv_r id (.inr (.inl (28, [.inr (.inr (some 19)), .inr (.inr (some (cur b))), .inl x1], []))) = .inr (.inl (28, [.inr (.inr (some 19)), .inr (.inr (some (nv_s id (cur b)))), .inl x1], [])) from rfl, hcu] at q
      exact q) ?_
    refine wp_mono (oXhard hct hL x1 (d := d + 1) (by omega)) (fun r M' h => ?_)
    obtain ⟨y, rfl, rfl, _⟩ := h
    show wpl cd 28 (d + 2) 135 19 (nv_l id [(0, .inr (.inr (some 0))), (1, .inl x1)]) (nv_t id [.inl y]) _ _
    refine wpl_nv hct hA rfl rfl (pc' := 23) (lo' := [(0, .inr (.inr (some 0))), (1, .inl x1)]) (st' := [.inl y]) rfl ?_
    exact tail y
noncomputable def j_ledC (cd : Nat → Nat → Option aI) (d ml mll ci stop pc' : Nat) : aI := fun lo st M => @dite _ (∃ f x, j_led cd f d ml mll ci stop pc' lo st M = some x) (Classical.propDecidable _) (fun h => j_led cd (Classical.choose h) d ml mll ci stop pc' lo st M) (fun _ => none)
theorem ledC_f {cd : Nat → Nat → Option aI} {d ml mll ci stop pc' : Nat} {lo : aL} {st : List aV} {M : aM} {x : aR} (h : j_ledC cd d ml mll ci stop pc' lo st M = some x) : ∃ f, j_led cd f d ml mll ci stop pc' lo st M = some x := by
  unfold j_ledC at h
  by_cases c : ∃ f x, j_led cd f d ml mll ci stop pc' lo st M = some x
  · rw [dif_pos c] at h; exact ⟨_, h⟩
  · rw [dif_neg c] at h; cases h
theorem ledC_e {cd : Nat → Nat → Option aI} {d ml mll ci stop pc' : Nat} {lo : aL} {st : List aV} {M : aM} (c : ∃ f x, j_led cd f d ml mll ci stop pc' lo st M = some x) : ∃ f x, j_ledC cd d ml mll ci stop pc' lo st M = some x ∧ j_led cd f d ml mll ci stop pc' lo st M = some x := by
  unfold j_ledC
  rw [dif_pos c]
  obtain ⟨x, hx⟩ := Classical.choose_spec c
  exact ⟨_, x, hx, hx⟩
theorem s_ledF {sc : aSc} {f : Nat} : aS sc cI F_252 1127 (j_led (cd0 sc.2.2) f 30 135 251 11 28 1130) :=
  S_led (fun m pc i h => (cd0_ok (sc := sc) m pc i h).1) (fun m pc i h => (cd0_ok (sc := sc) m pc i h).2) rfl (ik := 289) (ic := 291) (lx := 151) (ix := 7) (jx := 13) (by decide) cI_135 cI_251 (by decide +kernel) (by decide) (by decide) (by decide +kernel) (by decide +kernel) (by decide +kernel) (by decide +kernel) tw_1271 tw_119 led_at led_nw (by decide +kernel) kl_11 rfl aY_135 tw_1262 tw_1263 tw_1264 (by decide +kernel) (by decide) rfl tw_1261 (by decide +kernel) (by decide +kernel) (by decide +kernel) (by decide +kernel) (by decide +kernel) (by decide +kernel) (by decide +kernel) (by decide +kernel) (by decide) tw_1258 tw_1259 tw_96 tw_1260 ⟨by decide, by decide, by decide +kernel⟩ (by decide +kernel)
theorem s_ledC {sc : aSc} : aS sc cI F_252 1127 (j_ledC (cd0 sc.2.2) 30 135 251 11 28 1130) := fun lo st M => by
  refine ⟨fun pc' lo' st' M' e => ?_, fun y As rest e => ?_, fun r e => ?_⟩
  · obtain ⟨f, h⟩ := ledC_f e
    exact (s_ledF (sc := sc) (f := f) lo st M).1 _ _ _ _ h
  · obtain ⟨f, h⟩ := ledC_f e
    exact (s_ledF (sc := sc) (f := f) lo st M).2.1 _ _ _ h
  · obtain ⟨f, h⟩ := ledC_f e
    exact (s_ledF (sc := sc) (f := f) lo st M).2.2 _ h
noncomputable def cdC (L : Nat) (xs : Nat → Int32) (z : Bool) : Nat → Nat → Option aI := fun m p => bif Nat.beq m 252 then (bif Nat.beq p 1127 then some (j_ledC (cd0 z) 30 135 251 11 28 1130) else kL L xs z p) else cd0 z m p
theorem cdC_ok {L : Nat} {xs : Nat → Int32} {z : Bool} : aSD (L, xs, z) cI (cdC L xs z) := fun m p i h => by
  have h : (bif Nat.beq m 252 then (bif Nat.beq p 1127 then some (j_ledC (cd0 z) 30 135 251 11 28 1130) else kL L xs z p) else cd0 z m p) = some i := h
  cases hb : Nat.beq m 252 with
  | true =>
    rw [hb] at h
    have b1 : m = 252 := nbT hb
    subst b1
    cases hc : Nat.beq p 1127 with
    | true =>
      rw [hc] at h
      have h : some (j_ledC (cd0 z) 30 135 251 11 28 1130) = some i := h
      cases h
      have b2 : p = 1127 := nbT hc
      subst b2
      have q := cd_ok (sc := (L, xs, z)) 252 0 _ rfl
      exact ⟨by rw [cI_252]; exact s_ledC (sc := (L, xs, z)), q.2⟩
    | false =>
      rw [hc] at h
      have h : kL L xs z p = some i := h
      have h9 : cdL L xs z 252 p = some i := h
      rw [← cdL_eq] at h9
      exact cd_ok 252 p i h9
  | false =>
    rw [hb] at h
    exact cd0_ok (sc := (L, xs, z)) m p i h
theorem cdC_0 {L : Nat} {xs : Nat → Int32} {z : Bool} : ∀ m p i, cd0 z m p = some i → cdC L xs z m p = some i := fun m p i h => by
  show (bif Nat.beq m 252 then _ else cd0 z m p) = some i
  cases hb : Nat.beq m 252 with
  | true =>
    have b1 : m = 252 := nbT hb
    subst b1
    have h : (none : Option aI) = some i := h
    cases h
  | false => exact h
theorem cdE_subC {L : Nat} {xs : Nat → Int32} {z : Bool} : csub cdE (cdC L xs z) := fun m p i e => by
  show ∃ i', (bif Nat.beq m 252 then (bif Nat.beq p 1127 then some (j_ledC (cd0 z) 30 135 251 11 28 1130) else kL L xs z p) else cd0 z m p) = some i' ∧ _
  cases hb : Nat.beq m 252 with
  | true =>
    have b1 : m = 252 := nbT hb
    subst b1
    have e : kE p = some i := e
    cases hc : Nat.beq p 1127 with
    | true =>
      have b2 : p = 1127 := nbT hc
      subst b2
      have e : some j_stop = some i := e
      cases e
      exact ⟨_, rfl, fun _ _ _ _ h => nomatch h⟩
    | false => exact kE_sub p i e
  | false =>
    have e : (bif Nat.blt m 252 then cdE0 m p else (bif Nat.beq m 252 then kE p else none)) = some i := e
    cases hc : Nat.blt m 252 with
    | true => rw [hc] at e; exact cdE0_sub m p i e
    | false => rw [hc, hb] at e; cases e
theorem law_entC {L : Nat} {xs : Nat → Int32} {z : Bool} {Q : aQ} (h : wpS (cdC L xs z) (40, [], 252, 23, cLo 0, [], cM) Q) : wpS (cdC L xs z) (40, [], 252, 0, la 0 aScr, [], aM0) Q := by
  refine goZ_ok cdE_subC (sm := 252) (sp := 23) (n := 3000) ?_
  rw [show goS cdE 252 23 3000 40 [] 252 0 (la 0 aScr) [] aM0 = _ from cE_eq]
  exact h
/-- the law's led: no number, or one -/
theorem x_led {z : Bool} {b : Bool} {rg : Nat → Nat} {M : aM} (hL : LB b rg M) (x1 : Int32) {lo : aL} : ∃ v M', j_ledC (cd0 z) 30 135 251 11 28 1130 lo [.inr (.inr (some 136)), .inl x1, .inr (.inr (some 0))] M = some (.inl (1130, lo, [.inl v], M')) ∧ (M' = a_bmp M ∨ ∃ w, M' = s_J M 136 0 w) := by
  have hz : ∀ m p i, cd0 z m p = some i → cd0 z m p = some i := fun _ _ _ h => h
  have hct := hc_of hz
  have h0 : (Nat.blt 0 (a_n M) && Nat.beq (a_K M 0) 11) = true := by
    rw [bltT (lo_n hL (by decide)), (hL.1.2 0 (lo_n hL (by decide))).1, hL.2.1 0 (by omega)]
    cases b <;> rfl
  have h136 : ((Nat.blt 136 (a_n M) && Nat.beq (a_K M 136) 16) && inb 0 (a_N M 136)) = true := by
    obtain ⟨q1, q2, _⟩ := hL.1.2 136 (lo_n hL (by decide))
    rw [bltT (lo_n hL (by decide)), q1, q2, hL.2.1 136 (by omega)]
    cases b <;> rfl
  obtain ⟨f1, q, hq, hQ⟩ := x_led9 (cd := cd0 z) hct hL x1 (d := 28)
  rcases hQ with ⟨lo1, rfl⟩ | ⟨y, rfl⟩
  · have e : j_led (cd0 z) f1 30 135 251 11 28 1130 lo [.inr (.inr (some 136)), .inl x1, .inr (.inr (some 0))] M = some (.inl (1130, lo, [.inl 1], a_bmp M)) := by
      unfold j_led
      simp only [hq]
      rw [h0]
      rfl
    obtain ⟨f, x, q1, q2⟩ := ledC_e ⟨f1, _, e⟩
    refine ⟨1, a_bmp M, ?_, Or.inl rfl⟩
    rw [q1]
    have e2 : exl (cd0 z) 28 (max f f1) 30 135 0 (la 0 [.inr (.inr (some 0)), .inl x1]) [] M = some (.inr (lo1, [], M)) := exl_le (Nat.le_max_right f f1) hq
    unfold j_led at q2
    simp only at q2
    rw [h0] at q2
    simp only [Bool.true_and] at q2
    rw [show Nat.ble (csum []) 8 = true from rfl] at q2
    simp only [cond_true] at q2
    split at q2
    · rename_i M1 hh
      have := exl_le (Nat.le_max_left f f1) hh
      rw [e2] at this
      cases this
      cases q2
      rfl
    · rename_i w hh
      have := exl_le (Nat.le_max_left f f1) hh
      rw [e2] at this
      cases this
    · cases q2
  · have hex : wp (cd0 z) 31 251 0 (la 0 [.inr (.inr (some 0)), .inl x1, .inr (.inr (some 136))]) [] M (fun r M' => r = some (.inl 0) ∧ M' = s_J M 136 0 y.toInt64) := by
      refine wp_step (hz _ _ _ rfl) rfl ?_
      refine wp_step (hz _ _ _ rfl) rfl ?_
      refine wp_step (hz _ _ _ rfl) rfl ?_
      refine wp_step (hz _ _ _ rfl) rfl ?_
      refine wp_call (hz _ _ _ rfl) (y := 135) (As := [.inr (.inr (some 0)), .inl x1]) (rest := [.inl 0, .inr (.inr (some 136))]) (by
        show (bif (Nat.blt 0 (a_n M) && Nat.beq (a_K M 0) 11) && _ then _ else none) = _
        rw [h0]
        rfl) ?_
      refine ⟨f1, some (.inl y), M, exl_exec _ _ _ _ _ _ _ _ _ hq, ?_⟩
      refine wp_step (hz _ _ _ rfl) rfl ?_
      refine wp_step (hz _ _ _ rfl) (pc' := 9) (lo' := la 0 [.inr (.inr (some 0)), .inl x1, .inr (.inr (some 136))]) (st' := []) (M' := s_J M 136 0 y.toInt64) (by
        show (bif (Nat.blt 136 (a_n M) && Nat.beq (a_K M 136) 16) && inb 0 (a_N M 136) then _ else none) = _
        rw [h136]
        rfl) ?_
      refine wp_step (hz _ _ _ rfl) rfl ?_
      refine wp_step (hz _ _ _ rfl) rfl ?_
      exact wp_ret (hz _ _ _ rfl) rfl ⟨rfl, rfl⟩
    obtain ⟨f2, r2, M2, hx, rfl, rfl⟩ := hex
    have e : j_led (cd0 z) (max f1 f2) 30 135 251 11 28 1130 lo [.inr (.inr (some 136)), .inl x1, .inr (.inr (some 0))] M = some (.inl (1130, lo, [.inl 0], s_J M 136 0 y.toInt64)) := by
      unfold j_led
      simp only [exl_le (Nat.le_max_left f1 f2) hq, exec_le (Nat.le_max_right f1 f2) hx]
      rw [h0]
      rfl
    obtain ⟨f, x, q1, q2⟩ := ledC_e ⟨max f1 f2, _, e⟩
    refine ⟨0, s_J M 136 0 y.toInt64, ?_, Or.inr ⟨_, rfl⟩⟩
    rw [q1]
    unfold j_led at q2
    simp only at q2
    rw [h0] at q2
    simp only [Bool.true_and] at q2
    rw [show Nat.ble (csum []) 8 = true from rfl] at q2
    simp only [cond_true] at q2
    split at q2
    · rename_i M1 hh
      have := exl_le (Nat.le_max_left f f1) hh
      rw [exl_le (Nat.le_max_right f f1) hq] at this
      cases this
    · rename_i w hh
      split at q2
      · rename_i v3 M3 hh3
        have := exec_le (Nat.le_max_left f f2) hh3
        rw [exec_le (Nat.le_max_right f f2) hx] at this
        cases this
        cases q2
        rfl
      · cases q2
    · cases q2
set_option maxHeartbeats 4000000 in
set_option maxRecDepth 100000 in
theorem law_startC {p : Program} {e : Env} {s : State} {m : MethodId} {below : List Frame} {meth : Method} {c : Code} (l : Launch) (hl9 : l.stackTraces = false) {b L : Nat} {xs : Nat → Int32} (C0 : lw_At p s m meth c b L xs) (hrun9 : ∀ z : Bool, ∃ f M', exec (cdC L xs z) f 40 252 0 (la 0 aScr) [] aM0 = some (some (.inl 1), M') ∧ a_c M' ≤ 601024 ∧ a_z M' ≤ 7293034) : W p l e room_1 s m #[Value.ref b] below meth c s.heap [] 0 0 (lw_Z below #[Value.ref b] s) (entryFrame m ([Value.ref b] : List Value).toArray 7) := by
  obtain ⟨hx, hb, hr, hml, hown, hts, hX, hbl, hlocks, hgv⟩ := C0
  have htb : ∀ w ∈ TB, w.before #[Value.ref b] s = true := fun w h => hts w (List.mem_filter.mp h).1
  obtain ⟨c0, i0, k0⟩ := u_known (C := RX0) (T := TX0) (N := 6) (n := 6) htb inT0 (htb _ tw_534)
  obtain ⟨c1, i1, k1⟩ := u_known (C := RX1) (T := TX1) (N := 10) (n := 10) htb inT1 (htb _ tw_352)
  obtain ⟨c2, i2, k2⟩ := u_known (C := RX2) (T := TX2) (N := 7) (n := 7) htb inT2 (htb _ tw_470)
  obtain ⟨c3, i3, k3⟩ := u_known (C := RX3) (T := TX3) (N := 7) (n := 7) htb inT3 (htb _ tw_346)
  obtain ⟨c4, i4, k4⟩ := u_known (C := RX4) (T := TX4) (N := 7) (n := 7) htb inT4 (htb _ tw_500)
  obtain ⟨c5, i5, k5⟩ := u_known (C := RX5) (T := TX5) (N := 4) (n := 4) htb inT5 (htb _ tw_178)
  obtain ⟨c6, i6, k6⟩ := u_known (C := RX6) (T := TX6) (N := 15) (n := 15) htb inT6 (htb _ tw_129)
  obtain ⟨c7, i7, k7⟩ := u_known (C := RX7) (T := TX7) (N := 7) (n := 7) htb inT7 (htb _ tw_436)
  obtain ⟨c8, i8, k8⟩ := u_known (C := RX8) (T := TX8) (N := 19) (n := 19) htb inT8 (htb _ tw_172)
  obtain ⟨c9, i9, k9⟩ := u_known (C := RX9) (T := TX9) (N := 8) (n := 8) htb inT9 (htb _ tw_135)
  obtain ⟨c10, i10, k10⟩ := u_known (C := RX10) (T := TX10) (N := 8) (n := 8) htb inT10 (htb _ tw_562)
  obtain ⟨c11, i11, k11⟩ := u_known (C := RX11) (T := TX11) (N := 12) (n := 12) htb inT11 (htb _ tw_121)
  obtain ⟨c12, i12, k12⟩ := u_known (C := RX12) (T := TX12) (N := 29) (n := 29) htb inT12 (htb _ tw_1481)
  obtain ⟨c13, i13, k13⟩ := u_known (C := RX13) (T := TX13) (N := 43) (n := 43) htb inT13 (htb _ tw_1333)
  obtain ⟨dC, dI, hKc⟩ : ∃ (dC : Nat → ClassId) (dI : Nat → Nat → Nat), ∀ (k : Nat) (q : vw_C), vwCl[k]? = some q → u_Kn s q.1 q.2.1 q.2.2 (dC k) (dI k) := by
    refine ⟨fun k => if k = 0 then c0 else if k = 1 then c1 else if k = 2 then c2 else if k = 3 then c3 else if k = 4 then c4 else if k = 5 then c5 else if k = 6 then c6 else if k = 7 then c7 else if k = 8 then c8 else if k = 9 then c9 else if k = 10 then c10 else if k = 11 then c11 else if k = 12 then c12 else c13, fun k => if k = 0 then i0 else if k = 1 then i1 else if k = 2 then i2 else if k = 3 then i3 else if k = 4 then i4 else if k = 5 then i5 else if k = 6 then i6 else if k = 7 then i7 else if k = 8 then i8 else if k = 9 then i9 else if k = 10 then i10 else if k = 11 then i11 else if k = 12 then i12 else i13, ?_⟩
    intro k q hq
    match k, hq with
    | 0, hq => cases hq; exact k0
    | 1, hq => cases hq; exact k1
    | 2, hq => cases hq; exact k2
    | 3, hq => cases hq; exact k3
    | 4, hq => cases hq; exact k4
    | 5, hq => cases hq; exact k5
    | 6, hq => cases hq; exact k6
    | 7, hq => cases hq; exact k7
    | 8, hq => cases hq; exact k8
    | 9, hq => cases hq; exact k9
    | 10, hq => cases hq; exact k10
    | 11, hq => cases hq; exact k11
    | 12, hq => cases hq; exact k12
    | 13, hq => cases hq; exact k13
    | k + 14, hq => simp [vwCl] at hq
  obtain ⟨cB, hB⟩ := ac_of (htb _ tw_170) (fun _ h => by cases h)
  obtain ⟨cI9, hI⟩ := ac_of (htb _ tw_202) (fun _ h => by cases h)
  obtain ⟨cJ, hJ⟩ := ac_of (htb _ tw_1592) (fun _ h => by cases h)
  obtain ⟨cZ, hZ⟩ := ac_of (htb _ tw_203) (fun _ h => by cases h)
  have hAO : va_AO "DeepHole$Bit" s := va_AO.of (hts _ ao_w)
  have hAOA : va_AOA .int s := va_AOA.of (hts _ aoa_w)
  obtain ⟨cQ, hQ⟩ := ao_of hAO
  obtain ⟨cR, hR⟩ := aoa_of hAOA
  have hfl := flat_of_before _ hgv
  obtain ⟨z, tz, hzt⟩ : ∃ (z : Bool) (tz : Nat), va_Z "jdk/internal/util/Preconditions" "SIOOBE_FORMATTER" "Ljava/util/function/BiFunction;" (bif z then .null else .ref tz) (fun q : Nat => s.heap.size ≤ q) s s.heap := by
    rcases va_Zqof (hts _ sio_l.1) (hts _ sio_l.2) (hfl _ sio_x) (A := fun q : Nat => s.heap.size ≤ q) (fun a h => Nat.not_le.mpr h) with h | ⟨tz, h⟩
    · exact ⟨true, 0, h⟩
    · exact ⟨false, tz, h⟩
  obtain ⟨f, M', hrun, hc9, hs9⟩ := hrun9 z
  obtain ⟨cy, e14, e15, e16, e17, e18, e19, e77⟩ : ∃ cy : Nat → ClassId, cy 14 = cB ∧ cy 15 = cI9 ∧ cy 16 = cJ ∧ cy 17 = cZ ∧ cy 18 = cQ ∧ cy 19 = cR ∧ cyz cy = z := ⟨fun k => if k = 14 then cB else if k = 15 then cI9 else if k = 16 then cJ else if k = 17 then cZ else if k = 18 then cQ else if k = 19 then cR else bif z then cB else cB + 1, by
    refine ⟨by simp, by simp, by simp, by simp, by simp, by simp, ?_⟩
    unfold cyz
    cases z with
    | true => exact Nat.beq_refl cB
    | false => exact nbF (show ¬ cB + 1 = cB from Nat.succ_ne_self cB)⟩
  have hK : va_K (dC, dI) vwCl (tyK cy) s := by
    refine ⟨hKc, fun k q hq => ?_⟩
    unfold tyK at hq
    rw [e14, e15, e16, e17, e18, e19] at hq
    match k, hq with
    | 0, hq => cases hq; exact hB
    | 1, hq => cases hq; exact hI
    | 2, hq => cases hq; exact hJ
    | 3, hq => cases hq; exact hZ
    | 4, hq => cases hq; exact hQ
    | 5, hq => cases hq; exact hR
    | k + 6, hq => simp at hq
  have h0 : ∀ id : Nat, ∃ av : Nat × Nat, ∀ q ∈ strT, q.2.2.2 = id → vk_R q.1 q.2.1 q.2.2.1 av.1 s ∧ va_O "java/lang/String" av.1 (fun q : Nat => s.heap.size ≤ q) s s.heap ∧ va_OF "java/lang/String" "coder" "B" (.int 0) av.1 (fun q : Nat => s.heap.size ≤ q) s s.heap ∧ va_OF "java/lang/String" "value" "[B" (.ref av.2) av.1 (fun q : Nat => s.heap.size ≤ q) s s.heap ∧ va_T .byte av.2 q.2.2.1.length (fun j => .int (sby q.2.2.1 j)) (fun q : Nat => s.heap.size ≤ q) s s.heap := fun id => by
    by_cases h : ∃ q ∈ strT, q.2.2.2 = id
    · obtain ⟨q, hq, e⟩ := h
      obtain ⟨a, c9, cA, kA, h1, q2, q3, q4, q5, q6, -⟩ := Cond.exactly_spec (hfl _ (str_x q hq))
      have hA9 : ∀ a : Nat, a < s.heap.size → ¬ s.heap.size ≤ a := fun a h => Nat.not_le.mpr h
      obtain ⟨t, ht, hT⟩ := va_Tof (f := fun j => .int (sby q.2.2.1 j)) (A := fun q : Nat => s.heap.size ≤ q) (str_n q hq) (hfl _ (str_a q hq)) (va_eqt (hfl _ (str_l q hq))) (fun j hj => va_eqt (hfl _ (str_e q hq j hj))) hA9
      refine ⟨(a, t), fun q' hq' e' => ?_⟩
      have := str_1 q hq q' hq' (e.trans e'.symm)
      subst this
      exact ⟨vk_R.of (hts _ (str_w q hq)) h1, ⟨cA, q3, q5, by rw [q6]; exact q2, hA9 a (Array.getElem?_eq_some_iff.mp q3).1⟩, vk_OFof h1 (va_eqt (hfl _ (str_c q hq))) hA9, vk_OFof h1 ht hA9, hT⟩
    · exact ⟨(0, 0), fun q hq e => absurd ⟨q, hq, e⟩ h⟩
  obtain ⟨g, hg⟩ := Classical.axiomOfChoice h0
  obtain ⟨ad0, hadX, hadZ, hadS, hadT⟩ : ∃ ad0 : Nat → Nat, ad0 aXS = b ∧ ad0 (aSB + 800000) = tz ∧ (∀ id, id < 300000 → ad0 (aSB + id) = (g id).1) ∧ ∀ id, id < 300000 → ad0 (aSB + (400000 + id)) = (g id).2 := ⟨fun j => if j = aXS then b else if j = aSB + 800000 then tz else if aSB + 400000 ≤ j then (g (j - (aSB + 400000))).2 else (g (j - aSB)).1, by simp, by simp, fun id h => by
    show (if aSB + id = aXS then b else if aSB + id = aSB + 800000 then tz else if aSB + 400000 ≤ aSB + id then (g (aSB + id - (aSB + 400000))).2 else (g (aSB + id - aSB)).1) = (g id).1
    rw [if_neg (show ¬ aSB + id = aXS by show ¬ aSB + id = aSB + 900000; omega), if_neg (by omega), if_neg (by omega), show aSB + id - aSB = id by omega], fun id h => by
    show (if aSB + (400000 + id) = aXS then b else if aSB + (400000 + id) = aSB + 800000 then tz else if aSB + 400000 ≤ aSB + (400000 + id) then (g (aSB + (400000 + id) - (aSB + 400000))).2 else (g (aSB + (400000 + id) - aSB)).1) = (g id).2
    rw [if_neg (show ¬ aSB + (400000 + id) = aXS by show ¬ aSB + (400000 + id) = aSB + 900000; omega), if_neg (by omega), if_pos (by omega), show aSB + (400000 + id) - (aSB + 400000) = id by omega]⟩
  have hStr : aStr ad0 s := fun q hq => by rw [hadS _ (str_2 q hq)]; exact (hg q.2.2.2 q hq rfl).1
  have hNst : aNst s := ⟨fun w hw => nest_of (List.mem_filter.mp hw).2 (hts w (List.mem_filter.mp hw).1), hAO, hAOA, va_Nw.of rfl (hts _ cst_w)⟩
  have hbA : ¬ aA cy ad0 aM0 s (ad0 aXS) := fun h => by
    rw [hadX] at h
    rcases h with ⟨k, e9, h⟩ | h
    · simp [wl, aM0, a_n] at h
    · exact Nat.not_lt.mpr h hbl
  have hAn : ∀ q : Nat, aA cy ad0 aM0 s q → s.heap.size ≤ q := fun q h => by
    rcases h with ⟨k, e9, h⟩ | h
    · simp [wl, aM0, a_n] at h
    · exact h
  have hAs : ∀ a : Nat, a < s.heap.size → ¬ aA cy ad0 aM0 s a := fun a h z => Nat.not_lt.mpr (hAn a z) h
  have hZ9 : aZ cy ad0 (aA cy ad0 aM0 s) s s.heap := ⟨⟨vx_Zqof (hts _ st_w.1.1) (hts _ st_w.2) (hfl _ st_x.1) hAs, vx_Zqof (hts _ st_w.1.2) (hts _ st_w.2) (hfl _ st_x.2) hAs⟩, fun q hq => by
    rw [hadS _ (str_2 q hq), hadT _ (str_2 q hq)]
    obtain ⟨-, h1, h2, h3, h4⟩ := hg q.2.2.2 q hq rfl
    exact ⟨h1.narrow hAn, h2.narrow hAn, h3.narrow hAn, h4.narrow hAn⟩, va_Zof (hts _ cst_l.1) (hts _ cst_l.2) (va_eqt (hfl _ cst_x)) hAs, by
    unfold sioV
    rw [e77, hadZ]
    exact hzt.narrow hAn⟩
  have hX9 : aX (L, xs, z) l F_252 p room_1 s m #[Value.ref b] meth c (dC, dI) cy ad0 aM0 := ⟨⟨hx, hb, hml, hown, htb⟩, hr, hlocks, fun e9 => absurd e9 (by decide), hK, ⟨hStr, hNst⟩, by decide, by decide, hZ9, e77.symm, fun _ => ⟨by rw [hadX]; exact hX, by rw [hadX]; exact hbl, hbA, hl9, by decide, by decide⟩⟩
  have hl := lv_entry ([.ref b]) (n := 7) (Nat.le_of_ble_eq_true rfl)
  rw [lg_entry_eq]
  generalize (lg_sl ([.ref b]) ++ List.replicate (7 - (lg_sl ([.ref b])).length) Slot.unset).toArray = ls at hl ⊢
  have hl : lv_has ls 7 ((la 0 aScr).map (tq ad0)) := by
    have e9 : (la 0 aScr).map (tq ad0) = [(0, .ref b)] := by
      show [((0 : Nat), va_rf (some (ad0 aXS)))] = _
      rw [hadX]
      rfl
    rw [e9]
    exact hl
  have hv1 : ∀ q ∈ la 0 aScr, vok (a_n aM0) q.2 := fun q hq => by
    rcases List.mem_cons.mp hq with e9 | h9
    · rw [e9]
      exact fun j hj => Or.inr (by cases hj; decide)
    · cases h9
  have hv2 : ∀ v ∈ ([] : List aV), vok (a_n aM0) v := fun v hv => by cases hv
  have hS := (snd_exec (sc := (L, xs, z)) (fun mid pc i h => (cdC_ok mid pc i h).1) (fun mid pc i h => (cdC_ok mid pc i h).2) f 40 252 0 (la 0 aScr) [] aM0 _ M' hrun).2 p l e room_1 s m #[Value.ref b] below meth c (dC, dI) cy ad0 aM0 (by rw [cI_252]; exact hX9) (by decide) (by decide) mle_rf (Nat.le_trans (Nat.sub_le _ _) hc9) (Nat.le_trans (Nat.sub_le _ _) hs9) ad0 s.heap [] ls agr_rf
    ⟨fun k q h => by simp [wl, aM0, a_n] at h, ⟨fun i j p q h => by simp [wl, aM0, a_n] at h, fun k q h => by simp [wl, aM0, a_n] at h⟩, va_S.rf, ⟨by decide, fun i k j h => by simp [aM0, a_P] at h⟩, by rw [cI_252]; exact hl, hv1, hv2⟩
  intro T hT X
  obtain ⟨t, a1, o, b1, b2, b3, L9, b4, b5⟩ := hS T hT X
  obtain ⟨⟨ad', _, ho, _⟩, _⟩ := b3
  refine ⟨t, a1, o, b1, b2, ho, b4.1, b4.2.1, b4.2.2.weaken (fun q hq hlt => ?_) (Nat.le_trans (Nat.sub_le _ _) hc9) (Nat.le_trans (Nat.sub_le _ _) hs9)⟩
  rcases b5 q hq with ⟨k, e9, h⟩ | h
  · simp [wl, aM0, a_n] at h
  · exact absurd hlt (Nat.not_lt.mpr h)

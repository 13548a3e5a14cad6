theorem get_go {M : aM} {lo : aL} {a ci k t nx : Nat} {w : List aV} (h1 : Nat.blt a (a_n M) = true) (h2 : Nat.beq (a_K M a) ci = true) : j_get nx ci k t lo (.inr (.inr (some a)) :: w) M = some (.inl (nx, lo, fv M a k t :: w, M)) := by
  show (bif _ then _ else _) = _
  rw [h1, h2]
  rfl
set_option maxHeartbeats 2000000 in
theorem yop1_get {R : yR} {ms : Nat → Nat → Bool} {rg : Nat → Nat} {M0 : aM} {nx ci k t : Nat} {x : Int32} {E : yE} {G : List Nat} {B : yB} {pc : Nat} {l : yL} {s : List yV} {L : List yP} {ρ : List Int} {τ : List Nat} {lo : aL} {st : List aV} {M : aM} (e : yop1 R ms (12, nx, ci, k, t, x) E G B l s = some L) (h : gP R ms rg M0 (E, G, B, pc, l, s) ρ τ lo st M) : Sim R ms rg M0 (semO (12, nx, ci, k, t, x)) ρ τ lo st M L := by
  obtain ⟨⟨h1, h2, h3⟩, h4, h5, h6, h7⟩ := h
  simp only at h1 h2 h4 h6 h7
  unfold yop1 at e
  simp only at e
  split at e
  · rename_i i w
    obtain ⟨v, w1, rfl, v1, v2⟩ := gK_cons h7
    obtain ⟨a, rfl, ha⟩ := inv_ref v1
    split at e
    · cases e
    · rename_i r hr
      obtain ⟨g1, g2, g3, g4, g5, g6, g7⟩ := yrg_ok hr h5.1 h2 ha
      obtain ⟨e1, e⟩ : Nat.blt k (R.2.2.1 r) = true ∧ _ = some L := by
        cases hb : Nat.blt k (R.2.2.1 r) with
        | true => rw [hb] at e; exact ⟨rfl, e⟩
        | false => rw [hb] at e; cases e
      have hty := (h5.1.2 a g3).2.2 k (by rw [g4]; exact blt_lt e1)
      rw [g4] at hty
      simp only [cond_true] at e
      split at e
      · split at e
        · rename_i q hq
          cases e
          obtain ⟨c, c1, c2⟩ := h4 _ (ybl_mem hq)
          rw [ha] at c1
          cases c1
          exact sim_1 (get_go g6 g7) (gP_self ⟨⟨h1, h2, h3⟩, h4, h5, h6, c2, v2⟩)
        · split at e
          · rename_i bd hbd
            cases e
            rw [hbd] at hty
            have hty := tyI hty
            refine sim_1 (get_go g6 g7) ⟨[(a_I M a k).toInt], [], ⟨gE_new h1 hty.1 hty.2, by simpa using h2, app_at h3⟩, ?_, h5, gL_mono _ [] h6, ⟨_, new_at h1, by simp⟩, gK_mono _ [] v2⟩
            exact gB_cons (gB_mono _ [] h4) (app_at ha) ⟨_, new_at h1, by simp⟩
          · cases e
      · cases e
      · rename_i t9 t0 t1
        have hfv : fv M a k t = .inr (.inr (a_P M a k)) := by
          match t, t0, t1 with
          | 0, t0, _ => exact absurd rfl t0
          | 1, _, t1 => exact absurd rfl t1
          | t + 2, _, _ => rfl
        split at e
        · rename_i y hq
          cases e
          obtain ⟨c, c1, c2⟩ := h4 _ (ybl_mem hq)
          rw [ha] at c1
          cases c1
          refine sim_1 (get_go g6 g7) (gP_self ⟨⟨h1, h2, h3⟩, h4, h5, h6, ?_, v2⟩)
          rw [hfv]
          rcases y with _ | j
          · have c2 : a_P M a k = none := c2
            rw [c2]
            trivial
          · obtain ⟨b, b1, b2⟩ := c2
            have b2 : a_P M a k = some b := b2
            rw [b2]
            exact b1
        · split at e
          · rename_i q hbd
            rw [hbd] at hty
            obtain ⟨e9, e8⟩ := bifE e
            subst e8
            cases hp : a_P M a k with
            | none =>
              rw [hp] at hty
              have hty : q.2 = true := hty
              rw [hty]
              refine ⟨_, _, _, _, get_go g6 g7, _, List.mem_cons_of_mem _ List.mem_cons_self, rfl, gP_self ⟨⟨h1, h2, h3⟩, ?_, h5, h6, ?_, v2⟩⟩
              · exact gB_cons h4 ha hp
              · rw [hfv, hp]
                trivial
            | some b =>
              rw [hp] at hty
              have hty : b < a_n M ∧ rg b = q.1 := hty
              refine ⟨_, _, _, _, get_go g6 g7, _, List.mem_cons_self, rfl, [], [b], ⟨by simpa using h1, gG_new h2 (Or.inl ⟨?_, hty⟩), by simpa using h3⟩, ?_, h5, gL_mono [] _ h6, ?_, gK_mono [] _ v2⟩
              · exact blt_lt e9
              · exact gB_cons (gB_mono [] _ h4) (app_at ha) ⟨b, newG_at h2, hp⟩
              · rw [hfv, hp]
                exact newG_at h2
          · cases e
  · cases e
set_option maxHeartbeats 2000000 in
theorem yop1_put {R : yR} {ms : Nat → Nat → Bool} {rg : Nat → Nat} {M0 : aM} {nx ci k b : Nat} {x : Int32} {E : yE} {G : List Nat} {B : yB} {pc : Nat} {l : yL} {s : List yV} {L : List yP} {ρ : List Int} {τ : List Nat} {lo : aL} {st : List aV} {M : aM} (e : yop1 R ms (13, nx, ci, k, b, x) E G B l s = some L) (h : gP R ms rg M0 (E, G, B, pc, l, s) ρ τ lo st M) : Sim R ms rg M0 (semO (13, nx, ci, k, b, x)) ρ τ lo st M L := by
  obtain ⟨⟨h1, h2, h3⟩, h4, h5, h6, h7⟩ := h
  simp only at h1 h2 h4 h6 h7
  unfold yop1 at e
  simp only at e
  split at e
  · rename_i q i w
    obtain ⟨v, w1, rfl, v1, v2⟩ := gK_cons h7
    obtain ⟨u, w2, rfl, u1, u2⟩ := gK_cons v2
    obtain ⟨y, rfl⟩ := inv_int v1
    obtain ⟨a, rfl, ha⟩ := inv_ref u1
    split at e
    · cases e
    · rename_i r hr
      obtain ⟨g1, g2, g3, g4, g5, g6, g7⟩ := yrg_ok hr h5.1 h2 ha
      split at e
      · rename_i bd hbd
        obtain ⟨e1, e2⟩ := bifE e
        subst e2
        obtain ⟨e2, e3⟩ := (Bool.and_eq_true _ _).mp e1
        obtain ⟨e4, e5⟩ := (Bool.and_eq_true _ _).mp e2
        obtain ⟨e6, e7⟩ := (Bool.and_eq_true _ _).mp e3
        have hb := ywi_ok e6 h1 v1
        have hB : (!nB b || isB y) = true := by
          cases hn : nB b with
          | false => rfl
          | true =>
            rw [hn] at e7
            have := ywi_ok (l := 0) (h := 1) (by simpa using e7) h1 v1
            show isB y = true
            unfold isB
            have h0 : y.toInt = 0 ∨ y.toInt = 1 := by omega
            rcases h0 with h0 | h0
            · rw [show y = 0 from Int32.toInt_inj.mp h0]; rfl
            · rw [show y = 1 from Int32.toInt_inj.mp h0]; rfl
        refine sim_1 (lo' := lo) (st' := w2) (M' := s_I M a k y) (show (bif _ then _ else _) = _ by rw [g6, g7, hB]; rfl) (gP_self ⟨⟨h1, h2, h3⟩, ?_, ⟨hT_sI h5.1 (by rw [g4]; exact hbd) hb.1 hb.2, Fr_sI h5.2 (by rw [g4]; exact e5)⟩, h6, u2⟩)
        refine gB_cons (gB_I h4 (fun q' hq' c hc => kill_ne hq' h2 h5.1.1 g3 g4 hc) (fun q' hq' => (List.mem_filter.mp hq').1)) ha ?_
        obtain ⟨z, z1, z2⟩ := v1
        refine ⟨z, z1, ?_⟩
        show (up2 (a_I M) a k y a k).toInt = _
        rw [up2_eq, if_pos ⟨rfl, rfl⟩]
        exact z2
      · cases e
  · cases e
set_option maxHeartbeats 2000000 in
theorem yop1_putr {R : yR} {ms : Nat → Nat → Bool} {rg : Nat → Nat} {M0 : aM} {nx ci k b : Nat} {x : Int32} {E : yE} {G : List Nat} {B : yB} {pc : Nat} {l : yL} {s : List yV} {L : List yP} {ρ : List Int} {τ : List Nat} {lo : aL} {st : List aV} {M : aM} (e : yop1 R ms (14, nx, ci, k, b, x) E G B l s = some L) (h : gP R ms rg M0 (E, G, B, pc, l, s) ρ τ lo st M) : Sim R ms rg M0 (semO (14, nx, ci, k, b, x)) ρ τ lo st M L := by
  obtain ⟨⟨h1, h2, h3⟩, h4, h5, h6, h7⟩ := h
  simp only at h1 h2 h4 h6 h7
  unfold yop1 at e
  simp only at e
  split at e
  · rename_i v0 i w
    obtain ⟨v, w1, rfl, v1, v2⟩ := gK_cons h7
    obtain ⟨u, w2, rfl, u1, u2⟩ := gK_cons v2
    obtain ⟨a, rfl, ha⟩ := inv_ref u1
    split at e
    · cases e
    · rename_i r hr
      obtain ⟨g1, g2, g3, g4, g5, g6, g7⟩ := yrg_ok hr h5.1 h2 ha
      split at e
      · rename_i q hbd
        obtain ⟨e1, e2⟩ := bifE e
        subst e2
        obtain ⟨e2, e3⟩ := (Bool.and_eq_true _ _).mp e1
        obtain ⟨e4, e5⟩ := (Bool.and_eq_true _ _).mp e2
        obtain ⟨p, rfl, hp, hb⟩ : ∃ p, v = .inr (.inr p) ∧ (∀ x : Int32, tyOk rg (a_n M) (.inr (.inr q)) x p) ∧ ∀ x : Int32, bOk ρ τ (.inr (.inr v0)) x p := by
          rcases v0 with _ | j
          · exact ⟨none, inv_null v1, fun _ => e3, fun _ => rfl⟩
          · obtain ⟨c, rfl, hc⟩ := inv_ref v1
            refine ⟨some c, rfl, fun _ => ?_, fun _ => ⟨c, hc, rfl⟩⟩
            obtain ⟨e6, e7⟩ := (Bool.and_eq_true _ _).mp e3
            cases hg : G[j]? with
            | none => rw [hg] at e6; cases e6
            | some r' =>
              rw [hg] at e6
              have e6 : r' = q.1 := nbT e6
              rcases h2.2 j r' c hg hc with ⟨_, z1, z2⟩ | ⟨z1, _⟩
              · exact ⟨z1, z2.trans e6⟩
              · have := blt_lt e7
                omega
        refine sim_1 (lo' := lo) (st' := w2) (M' := s_P M a k p) (show (bif _ then _ else _) = _ by rw [g6, g7]; rfl) (gP_self ⟨⟨h1, h2, h3⟩, ?_, ⟨hT_sP h5.1 (fun x => by rw [g4, hbd]; exact hp x), Fr_sP h5.2 (by rw [g4]; exact e5)⟩, h6, u2⟩)
        refine gB_cons (gB_P h4 (fun q' hq' c hc => kill_ne hq' h2 h5.1.1 g3 g4 hc) (fun q' hq' => (List.mem_filter.mp hq').1)) ha ?_
        show bOk ρ τ (.inr (.inr v0)) _ (up2 (a_P M) a k p a k)
        rw [up2_eq, if_pos ⟨rfl, rfl⟩]
        exact hb _
      · cases e
  · cases e

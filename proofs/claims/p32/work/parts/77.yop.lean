theorem arr_slot {R : yR} {rg : Nat → Nat} {M : aM} {a kd c : Nat} (h : hT R rg M) (ha : a < a_n M) (hk : R.1 (rg a) = kd) (h14 : Nat.ble 14 kd = true) (hc : c < R.2.2.1 (rg a)) : tyOk rg (a_n M) (ysl R (rg a) 0) (a_I M a c) (a_P M a c) := by
  obtain ⟨q1, q2, q3⟩ := h.2 a ha
  have := q3 c hc
  unfold ysl ysi at this ⊢
  rw [hk, h14] at this ⊢
  exact this
theorem idx_ok {E : yE} {ρ : List Int} {τ : List Nat} {q : Nat × Int} {x : Int32} {n : Nat} (hb : ywi E q 0 ((n : Int) - 1) = true) (hE : gE E ρ) (hv : yv ρ τ (.inl q) (.inl x)) : inb x n = true ∧ x.toNatClampNeg < n := by
  have := ywi_ok hb hE hv
  refine ⟨inb_ok this.1 this.2, ?_⟩
  show x.toInt.toNat < n
  omega
set_option maxHeartbeats 2000000 in
theorem yop1_ald {R : yR} {ms : Nat → Nat → Bool} {rg : Nat → Nat} {M0 : aM} {nx kd k b : Nat} {x : Int32} {E : yE} {G : List Nat} {B : yB} {pc : Nat} {l : yL} {s : List yV} {L : List yP} {ρ : List Int} {τ : List Nat} {lo : aL} {st : List aV} {M : aM} (e : yop1 R ms (15, nx, kd, k, b, x) E G B l s = some L) (h : gP R ms rg M0 (E, G, B, pc, l, s) ρ τ lo st M) : Sim R ms rg M0 (semO (15, nx, kd, k, b, x)) ρ τ lo st M L := by
  obtain ⟨⟨h1, h2, h3⟩, h4, h5, h6, h7⟩ := h
  simp only at h1 h2 h4 h6 h7
  unfold yop1 at e
  simp only at e
  split at e
  · rename_i q i w
    obtain ⟨v, w1, rfl, v1, v2⟩ := gK_cons h7
    obtain ⟨u, w2, rfl, u1, u2⟩ := gK_cons v2
    obtain ⟨y, rfl⟩ := inv_int v1
    obtain ⟨a, rfl, ha⟩ := inv_ref u1
    split at e
    · cases e
    · rename_i r hr
      obtain ⟨g1, g2, g3, g4, g5, g6, g7⟩ := yrg_ok hr h5.1 h2 ha
      obtain ⟨e0, e⟩ : ((Nat.ble (R.2.2.1 r) (R.2.1 r) && Nat.ble 14 kd) && ywi E q 0 ((R.2.2.1 r : Int) - 1)) = true ∧ _ = some L := by
        cases hb : ((Nat.ble (R.2.2.1 r) (R.2.1 r) && Nat.ble 14 kd) && ywi E q 0 ((R.2.2.1 r : Int) - 1)) with
        | true => rw [hb] at e; exact ⟨rfl, e⟩
        | false => rw [hb] at e; cases e
      obtain ⟨e1, e2⟩ := (Bool.and_eq_true _ _).mp e0
      obtain ⟨e3, e4⟩ := (Bool.and_eq_true _ _).mp e1
      have hN := (h5.1.2 a g3).2.1
      rw [g4] at hN
      have e3 := Nat.le_of_ble_eq_true e3
      obtain ⟨i0, i2⟩ := idx_ok e2 h1 v1
      have hbd := ywi_ok e2 h1 v1
      have i1 : inb y (a_N M a) = true := inb_ok hbd.1 (by rw [hN]; omega)
      have hk : R.1 r = kd := by rw [← g5, (h5.1.2 a g3).1, g4]
      have hsl := arr_slot h5.1 g3 (by rw [g4]; exact hk) e4 (by rw [g4]; exact i2)
      rw [g4] at hsl
      have hgo : j_ald nx kd lo (.inl y :: .inr (.inr (some a)) :: w2) M = some (.inl (nx, lo, .inl (a_I M a y.toNatClampNeg) :: w2, M)) := by
        show (bif _ then _ else _) = _
        rw [g6, g7, i1]
        rfl
      simp only [cond_true] at e
      split at e
      · rename_i v3 hq
        cases e
        cases hs : ysg E q with
        | none => rw [hs] at hq; cases hq
        | some c =>
          rw [hs] at hq
          have hc := ysg_ok hs h1 v1
          obtain ⟨d, d1, d2⟩ := h4 _ (ybl_mem (show ybl B i c = some (.inl v3) from hq))
          rw [ha] at d1
          cases d1
          refine sim_1 hgo (gP_self ⟨⟨h1, h2, h3⟩, h4, h5, h6, ?_, u2⟩)
          rw [hc]
          exact d2
      · split at e
        · rename_i bd hbd
          rw [hbd] at hsl
          have hsl := tyI hsl
          split at e
          · rename_i c hs
            cases e
            have hc := ysg_ok hs h1 v1
            refine sim_1 hgo ⟨[(a_I M a y.toNatClampNeg).toInt], [], ⟨gE_new h1 hsl.1 hsl.2, by simpa using h2, app_at h3⟩, ?_, h5, gL_mono _ [] h6, ⟨_, new_at h1, by simp⟩, gK_mono _ [] u2⟩
            refine gB_cons (gB_mono _ [] h4) (app_at ha) ⟨_, new_at h1, ?_⟩
            rw [← hc]
            simp
          · cases e
            exact sim_1 hgo ⟨[(a_I M a y.toNatClampNeg).toInt], [], ⟨gE_new h1 hsl.1 hsl.2, by simpa using h2, app_at h3⟩, gB_mono _ [] h4, h5, gL_mono _ [] h6, ⟨_, new_at h1, by simp⟩, gK_mono _ [] u2⟩
        · cases e
  · cases e
set_option maxHeartbeats 2000000 in
theorem yop1_aald {R : yR} {ms : Nat → Nat → Bool} {rg : Nat → Nat} {M0 : aM} {nx kd k b : Nat} {x : Int32} {E : yE} {G : List Nat} {B : yB} {pc : Nat} {l : yL} {s : List yV} {L : List yP} {ρ : List Int} {τ : List Nat} {lo : aL} {st : List aV} {M : aM} (e : yop1 R ms (17, nx, kd, k, b, x) E G B l s = some L) (h : gP R ms rg M0 (E, G, B, pc, l, s) ρ τ lo st M) : Sim R ms rg M0 (semO (17, nx, kd, k, b, x)) ρ τ lo st M L := by
  obtain ⟨⟨h1, h2, h3⟩, h4, h5, h6, h7⟩ := h
  simp only at h1 h2 h4 h6 h7
  unfold yop1 at e
  simp only at e
  split at e
  · rename_i q i w
    obtain ⟨v, w1, rfl, v1, v2⟩ := gK_cons h7
    obtain ⟨u, w2, rfl, u1, u2⟩ := gK_cons v2
    obtain ⟨y, rfl⟩ := inv_int v1
    obtain ⟨a, rfl, ha⟩ := inv_ref u1
    split at e
    · cases e
    · rename_i r hr
      obtain ⟨g1, g2, g3, g4, g5, g6, g7⟩ := yrg_ok hr h5.1 h2 ha
      obtain ⟨e0, e⟩ : ((Nat.ble (R.2.2.1 r) (R.2.1 r) && Nat.ble 14 kd) && ywi E q 0 ((R.2.2.1 r : Int) - 1)) = true ∧ _ = some L := by
        cases hb : ((Nat.ble (R.2.2.1 r) (R.2.1 r) && Nat.ble 14 kd) && ywi E q 0 ((R.2.2.1 r : Int) - 1)) with
        | true => rw [hb] at e; exact ⟨rfl, e⟩
        | false => rw [hb] at e; cases e
      obtain ⟨e1, e2⟩ := (Bool.and_eq_true _ _).mp e0
      obtain ⟨e3, e4⟩ := (Bool.and_eq_true _ _).mp e1
      have hN := (h5.1.2 a g3).2.1
      rw [g4] at hN
      have e3 := Nat.le_of_ble_eq_true e3
      obtain ⟨i0, i2⟩ := idx_ok e2 h1 v1
      have hbd := ywi_ok e2 h1 v1
      have i1 : inb y (a_N M a) = true := inb_ok hbd.1 (by rw [hN]; omega)
      have hk : R.1 r = kd := by rw [← g5, (h5.1.2 a g3).1, g4]
      have hsl := arr_slot h5.1 g3 (by rw [g4]; exact hk) e4 (by rw [g4]; exact i2)
      rw [g4] at hsl
      have hgo : j_aald nx kd lo (.inl y :: .inr (.inr (some a)) :: w2) M = some (.inl (nx, lo, .inr (.inr (a_P M a y.toNatClampNeg)) :: w2, M)) := by
        show (bif _ then _ else _) = _
        rw [g6, g7, i1]
        rfl
      simp only [cond_true] at e
      split at e
      · rename_i v3 hq
        cases e
        cases hs : ysg E q with
        | none => rw [hs] at hq; cases hq
        | some c =>
          rw [hs] at hq
          have hc := ysg_ok hs h1 v1
          obtain ⟨d, d1, d2⟩ := h4 _ (ybl_mem (show ybl B i c = some (.inr (.inr (some v3))) from hq))
          rw [ha] at d1
          cases d1
          obtain ⟨b1, b2, b3⟩ := d2
          refine sim_1 hgo (gP_self ⟨⟨h1, h2, h3⟩, h4, h5, h6, ?_, u2⟩)
          rw [hc, show a_P M a c = some b1 from b3]
          exact b2
      · split at e
        · rename_i p hbd
          rw [hbd] at hsl
          obtain ⟨e8, e⟩ : (p.2 || !Nat.blt p.1 aSB) = false ∧ _ = some L := by
            cases hb : (p.2 || !Nat.blt p.1 aSB) with
            | true => rw [hb] at e; cases e
            | false => rw [hb] at e; exact ⟨rfl, e⟩
          obtain ⟨e8, e9⟩ := (Bool.or_eq_false_iff).mp e8
          have e9 : p.1 < aSB := blt_lt (by simpa using e9)
          simp only [cond_false] at e
          cases hp : a_P M a y.toNatClampNeg with
          | none =>
            rw [hp] at hsl
            have hsl : p.2 = true := hsl
            rw [hsl] at e8
            cases e8
          | some c0 =>
            rw [hp] at hsl hgo
            have hsl : c0 < a_n M ∧ rg c0 = p.1 := hsl
            split at e
            · rename_i c hs
              cases e
              have hc := ysg_ok hs h1 v1
              refine sim_1 hgo ⟨[], [c0], ⟨by simpa using h1, gG_new h2 (Or.inl ⟨e9, hsl⟩), by simpa using h3⟩, ?_, h5, gL_mono [] _ h6, newG_at h2, gK_mono [] _ u2⟩
              refine gB_cons (gB_mono [] _ h4) (app_at ha) ⟨c0, newG_at h2, ?_⟩
              rw [← hc]
              exact hp
            · cases e
              exact sim_1 hgo ⟨[], [c0], ⟨by simpa using h1, gG_new h2 (Or.inl ⟨e9, hsl⟩), by simpa using h3⟩, gB_mono [] _ h4, h5, gL_mono [] _ h6, newG_at h2, gK_mono [] _ u2⟩
        · cases e
  · cases e
set_option maxHeartbeats 2000000 in
theorem yop1_ast {R : yR} {ms : Nat → Nat → Bool} {rg : Nat → Nat} {M0 : aM} {nx kd g b : Nat} {x : Int32} {E : yE} {G : List Nat} {B : yB} {pc : Nat} {l : yL} {s : List yV} {L : List yP} {ρ : List Int} {τ : List Nat} {lo : aL} {st : List aV} {M : aM} (e : yop1 R ms (16, nx, kd, g, b, x) E G B l s = some L) (h : gP R ms rg M0 (E, G, B, pc, l, s) ρ τ lo st M) : Sim R ms rg M0 (semO (16, nx, kd, g, b, x)) ρ τ lo st M L := by
  obtain ⟨⟨h1, h2, h3⟩, h4, h5, h6, h7⟩ := h
  simp only at h1 h2 h4 h6 h7
  unfold yop1 at e
  simp only at e
  split at e
  · rename_i v0 q i w
    obtain ⟨t, w0, rfl, t1, t2⟩ := gK_cons h7
    obtain ⟨v, w1, rfl, v1, v2⟩ := gK_cons t2
    obtain ⟨u, w2, rfl, u1, u2⟩ := gK_cons v2
    obtain ⟨y0, rfl⟩ := inv_int t1
    obtain ⟨y, rfl⟩ := inv_int v1
    obtain ⟨a, rfl, ha⟩ := inv_ref u1
    split at e
    · cases e
    · rename_i r hr
      obtain ⟨g1, g2, g3, g4, g5, g6, g7⟩ := yrg_ok hr h5.1 h2 ha
      split at e
      · rename_i bd hbd
        obtain ⟨e0, e⟩ : ((Nat.ble (R.2.1 r) (R.2.2.1 r) && Nat.ble 14 kd) && (ywi E q 0 ((R.2.1 r : Int) - 1) && ((bif Nat.beq g 0 then ywi E v0 bd.1 bd.2 else decide (bd.1 ≤ i32a ∧ i32b ≤ bd.2)) && ms r 0))) = true ∧ _ = some L := by
          cases hb : ((Nat.ble (R.2.1 r) (R.2.2.1 r) && Nat.ble 14 kd) && (ywi E q 0 ((R.2.1 r : Int) - 1) && ((bif Nat.beq g 0 then ywi E v0 bd.1 bd.2 else decide (bd.1 ≤ i32a ∧ i32b ≤ bd.2)) && ms r 0))) with
          | true => rw [hb] at e; exact ⟨rfl, e⟩
          | false => rw [hb] at e; cases e
        obtain ⟨e1, e2⟩ := (Bool.and_eq_true _ _).mp e0
        obtain ⟨e3, e4⟩ := (Bool.and_eq_true _ _).mp e1
        obtain ⟨e5, e6⟩ := (Bool.and_eq_true _ _).mp e2
        obtain ⟨e7, e8⟩ := (Bool.and_eq_true _ _).mp e6
        have hN := (h5.1.2 a g3).2.1
        rw [g4] at hN
        rw [← hN] at e5
        obtain ⟨i1, i2⟩ := idx_ok e5 h1 v1
        have hk : R.1 r = kd := by rw [← g5, (h5.1.2 a g3).1, g4]
        have hbd2 : ∀ c, ysl R (rg a) c = .inl bd := fun c => by
          rw [g4, ← hbd]
          unfold ysl ysi
          rw [hk, e4]
          rfl
        have hms : ∀ c, ms (rg a) (ysi R (rg a) c) = true := fun c => by
          rw [g4]
          unfold ysi
          rw [hk, e4]
          exact e8
        have hval : bd.1 ≤ (astf g y0).toInt ∧ (astf g y0).toInt ≤ bd.2 := by
          cases hg0 : Nat.beq g 0 with
          | true =>
            rw [hg0] at e7
            rw [nbT hg0]
            exact ywi_ok e7 h1 t1
          | false =>
            rw [hg0] at e7
            have e7 := of_decide_eq_true e7
            have := i32_bd (astf g y0)
            omega
        have hgo : j_ast (astf g) nx kd lo (.inl y0 :: .inl y :: .inr (.inr (some a)) :: w2) M = some (.inl (nx, lo, w2, s_I M a y.toNatClampNeg (astf g y0))) := by
          show (bif _ then _ else _) = _
          rw [g6, g7, i1]
          rfl
        have hH : hT R rg (s_I M a y.toNatClampNeg (astf g y0)) ∧ Fr R ms rg M0 (s_I M a y.toNatClampNeg (astf g y0)) := ⟨hT_sI h5.1 (hbd2 _) hval.1 hval.2, Fr_sI h5.2 (hms _)⟩
        simp only [cond_true] at e
        split at e
        · rename_i c hs
          cases e
          have hc := ysg_ok hs h1 v1
          refine sim_1 hgo (gP_self ⟨⟨h1, h2, h3⟩, ?_, hH, h6, u2⟩)
          have hk0 : gB (ykill G r c B) ρ τ (s_I M a y.toNatClampNeg (astf g y0)) := by
            rw [hc]
            exact gB_I h4 (fun q' hq' c hc => kill_ne hq' h2 h5.1.1 g3 g4 hc) (fun q' hq' => (List.mem_filter.mp hq').1)
          cases hg0 : Nat.beq g 0 with
          | false => exact hk0
          | true =>
            refine gB_cons hk0 ha ?_
            obtain ⟨z, z1, z2⟩ := t1
            refine ⟨z, z1, ?_⟩
            show (up2 (a_I M) a y.toNatClampNeg (astf g y0) a c).toInt = _
            rw [up2_eq, if_pos ⟨rfl, hc.symm⟩, nbT hg0]
            exact z2
        · cases e
          refine sim_1 hgo (gP_self ⟨⟨h1, h2, h3⟩, ?_, hH, h6, u2⟩)
          exact gB_I h4 (fun q' hq' c hc => ⟨(kila_ne hq' h2 h5.1.1 g3 g4 hc).1, fun z => (kila_ne hq' h2 h5.1.1 g3 g4 hc).2 z.1⟩) (fun q' hq' => (List.mem_filter.mp hq').1)
      · cases e
  · cases e
set_option maxHeartbeats 2000000 in
theorem yop1_rest {R : yR} {ms : Nat → Nat → Bool} {rg : Nat → Nat} {M0 : aM} {op nx a b c : Nat} {x : Int32} {E : yE} {G : List Nat} {B : yB} {pc : Nat} {l : yL} {s : List yV} {L : List yP} {ρ : List Int} {τ : List Nat} {lo : aL} {st : List aV} {M : aM} (ho : 18 ≤ op) (e : yop1 R ms (op, nx, a, b, c, x) E G B l s = some L) (h : gP R ms rg M0 (E, G, B, pc, l, s) ρ τ lo st M) : Sim R ms rg M0 (semO (op, nx, a, b, c, x)) ρ τ lo st M L := by
  obtain ⟨⟨h1, h2, h3⟩, h4, h5, h6, h7⟩ := h
  simp only at h1 h2 h4 h6 h7
  match op, ho with
  | 18, _ =>
    unfold yop1 at e
    simp only at e
    split at e
    · rename_i i w
      obtain ⟨v, w1, rfl, v1, v2⟩ := gK_cons h7
      obtain ⟨a, rfl, ha⟩ := inv_ref v1
      split at e
      · rename_i r hr
        obtain ⟨e1, e2⟩ := bifE e
        subst e2
        obtain ⟨e2, e3⟩ := (Bool.and_eq_true _ _).mp e1
        obtain ⟨e4, e5⟩ := (Bool.and_eq_true _ _).mp e2
        have e4 := blt_lt e4
        rcases h2.2 i r a hr ha with ⟨_, q1, q2⟩ | ⟨q1, _⟩
        · obtain ⟨k1, k2, _⟩ := h5.1.2 a q1
          rw [q2] at k1 k2
          have hlt := blt_lt e3
          refine sim_1 (lo' := lo) (st' := .inl (Int32.ofNat (a_N M a)) :: w1) (M' := M) (show (bif _ then _ else _) = _ by rw [k1, e5, show Nat.blt a (a_n M) = true from Nat.ble_eq.mpr q1]; rfl) (gP_self ⟨⟨h1, h2, h3⟩, h4, h5, h6, ⟨0, h3, ?_⟩, v2⟩)
          rw [k2]
          show (Int32.ofNat (R.2.1 r)).toInt = 0 + (R.2.1 r : Int)
          rw [Int32.toInt_ofNat_of_lt (by omega)]
          omega
        · omega
      · cases e
    · cases e
  | 19, _ =>
    unfold yop1 at e
    simp only at e
    split at e
    · rename_i v0 w
      obtain ⟨e1, e2⟩ := bifE e
      subst e2
      obtain ⟨v, w1, rfl, v1, v2⟩ := gK_cons h7
      exact sim_1 (lo' := lo) (st' := v :: v :: w1) (M' := M) (show (bif _ then _ else _) = _ by rw [yv_isL v1 e1]; rfl) (gP_self ⟨⟨h1, h2, h3⟩, h4, h5, h6, v1, v1, v2⟩)
    · cases e
  | 20, _ =>
    unfold yop1 at e
    simp only at e
    split at e
    · rename_i v0 w
      obtain ⟨e1, e2⟩ := bifE e
      subst e2
      obtain ⟨v, w1, rfl, v1, v2⟩ := gK_cons h7
      exact sim_1 (lo' := lo) (st' := w1) (M' := M) (show (bif _ then _ else _) = _ by rw [yv_isL v1 e1]; rfl) (gP_self ⟨⟨h1, h2, h3⟩, h4, h5, h6, v2⟩)
    · cases e
  | 21, _ =>
    unfold yop1 at e
    simp only at e
    split at e
    · rename_i v0 u0 w
      obtain ⟨e1, e2⟩ := bifE e
      subst e2
      obtain ⟨e3, e4⟩ := (Bool.and_eq_true _ _).mp e1
      obtain ⟨v, w1, rfl, v1, v2⟩ := gK_cons h7
      obtain ⟨u, w2, rfl, u1, u2⟩ := gK_cons v2
      exact sim_1 (lo' := lo) (st' := v :: u :: v :: u :: w2) (M' := M) (show (bif _ then _ else _) = _ by rw [yv_isL v1 e3, yv_isL u1 e4]; rfl) (gP_self ⟨⟨h1, h2, h3⟩, h4, h5, h6, v1, u1, v1, u1, u2⟩)
    · cases e
  | 22, _ =>
    unfold yop1 at e
    simp only at e
    split at e
    · cases e
      obtain ⟨v, w1, rfl, v1, v2⟩ := gK_cons h7
      have := inv_null v1
      subst this
      exact sim_1 (lo' := lo) (st' := w1) (M' := M) rfl (gP_self ⟨⟨h1, h2, h3⟩, h4, h5, h6, v2⟩)
    · cases e
      obtain ⟨v, w1, rfl, v1, v2⟩ := gK_cons h7
      obtain ⟨a, rfl, ha⟩ := inv_ref v1
      exact sim_1 (lo' := lo) (st' := w1) (M' := M) rfl (gP_self ⟨⟨h1, h2, h3⟩, h4, h5, h6, v2⟩)
    · cases e
  | 23, _ =>
    have e : some _ = some L := e
    cases e
    exact sim_1 (lo' := lo) (st' := .inr (.inr (some (aSB + a))) :: st) (M' := M) rfl ⟨[], [aSB + a], ⟨by simpa using h1, gG_new h2 (Or.inr ⟨Nat.le_add_right _ _, rfl⟩), by simpa using h3⟩, gB_mono [] _ h4, h5, gL_mono [] _ h6, newG_at h2, gK_mono [] _ h7⟩
  | op + 24, _ => cases e
theorem yop1_ok {R : yR} {ms : Nat → Nat → Bool} {rg : Nat → Nat} {M0 : aM} {o : aO} {E : yE} {G : List Nat} {B : yB} {pc : Nat} {l : yL} {s : List yV} {L : List yP} {ρ : List Int} {τ : List Nat} {lo : aL} {st : List aV} {M : aM} (e : yop1 R ms o E G B l s = some L) (h : gP R ms rg M0 (E, G, B, pc, l, s) ρ τ lo st M) : Sim R ms rg M0 (semO o) ρ τ lo st M L := by
  obtain ⟨op, nx, a, b, c, x⟩ := o
  by_cases h1 : op < 12
  · exact yop1_a h1 e h
  · by_cases h2 : 18 ≤ op
    · exact yop1_rest h2 e h
    · match op, h1, h2 with
      | 12, _, _ => exact yop1_get e h
      | 13, _, _ => exact yop1_put e h
      | 14, _, _ => exact yop1_putr e h
      | 15, _, _ => exact yop1_ald e h
      | 16, _, _ => exact yop1_ast e h
      | 17, _, _ => exact yop1_aald e h
      | op + 18, _, h2 => exact absurd (Nat.le_add_left _ _) h2

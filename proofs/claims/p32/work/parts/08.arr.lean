/-! Arrays, new cells. -/
def inb (i : Int32) (n : Nat) : Bool := !decide (i < 0) && Nat.blt i.toNatClampNeg n
theorem inb_in {i : Int32} {n : Nat} (h : inb i n = true) : vp_in i n := by
  obtain ⟨h1, h2⟩ := (Bool.and_eq_true _ _).mp h
  have h1 : ¬ i < 0 := of_decide_eq_false (by simpa using h1)
  exact fun q => q.elim h1 (fun z => absurd (blt_lt h2) (Nat.not_lt.mpr z))
theorem wE_I {cy : Nat → ClassId} {ad : Nat → Nat} {M : aM} {a k : Nat} (h : a_K M a = k) (hk : k = 14 ∨ k = 15 ∨ k = 17) : wE cy ad M a = .inl (cy k, a_N M a, .inl (a_I M a)) := by
  unfold wE
  rw [h]
  rcases hk with rfl | rfl | rfl <;> simp
theorem wE_J {cy : Nat → ClassId} {ad : Nat → Nat} {M : aM} {a : Nat} (h : a_K M a = 16) : wE cy ad M a = .inl (cy 16, a_N M a, .inr (.inl (a_J M a))) := by
  unfold wE
  rw [h]
  simp
theorem wE_P {cy : Nat → ClassId} {ad : Nat → Nat} {M : aM} {a k : Nat} (h : a_K M a = k) (hk : k = 18 ∨ k = 19) : wE cy ad M a = .inl (cy k, a_N M a, .inr (.inr (.inr (.inr (fun j => (a_P M a j).map ad))))) := by
  unfold wE
  rw [h]
  rcases hk with rfl | rfl <;> simp
def j_ald (pc' k : Nat) : aI := fun lo st M => match st with
  | .inl i :: .inr (.inr (some a)) :: s => bif (Nat.blt a (a_n M) && Nat.beq (a_K M a) k) && inb i (a_N M a) then some (.inl (pc', lo, .inl (a_I M a i.toNatClampNeg) :: s, M)) else none
  | _ => none
theorem S_iaload {sc : aSc} {cI : Nat → aF} {F : aF} {pc : Nat} (hd : decode F.2.1 pc = .ok (.iaload, 1)) : aS sc cI F pc (j_ald (pc + 1) 15) := aS_n fun lo st M r e => by
  unfold j_ald at e
  split at e
  · rename_i i a s
    obtain ⟨h12, h3, h4⟩ := bandE e (by simp)
    obtain ⟨h1, h2⟩ := (Bool.and_eq_true _ _).mp h12
    cases h4
    refine ⟨_, _, _, _, rfl, aN_rd (fun _ _ b => vok_c vok_i (vok_t (vok_t b))) (fun p l e R s m args below meth c H locs cells slots Q ls ad D cy C hK hE hP k9 => ?_)⟩
    have he := wl_at (cy := cy) (ad := ad) (blt_lt h1)
    rw [wE_I (nbT h2) (by omega)] at he
    exact va_iald C.1 C.2.1 hK hP a 1 he rfl (inb_in h3) hd k9
  · cases e
theorem S_baload {sc : aSc} {cI : Nat → aF} {F : aF} {pc : Nat} (hd : decode F.2.1 pc = .ok (.baload, 1)) : aS sc cI F pc (j_ald (pc + 1) 14) := aS_n fun lo st M r e => by
  unfold j_ald at e
  split at e
  · rename_i i a s
    obtain ⟨h12, h3, h4⟩ := bandE e (by simp)
    obtain ⟨h1, h2⟩ := (Bool.and_eq_true _ _).mp h12
    cases h4
    refine ⟨_, _, _, _, rfl, aN_rd (fun _ _ b => vok_c vok_i (vok_t (vok_t b))) (fun p l e R s m args below meth c H locs cells slots Q ls ad D cy C hK hE hP k9 => ?_)⟩
    have he := wl_at (cy := cy) (ad := ad) (blt_lt h1)
    rw [wE_I (nbT h2) (by omega)] at he
    exact va_bald C.1 C.2.1 hK hP a 0 he rfl (inb_in h3) hd k9
  · cases e
theorem S_zaload {sc : aSc} {cI : Nat → aF} {F : aF} {pc : Nat} (hd : decode F.2.1 pc = .ok (.baload, 1)) : aS sc cI F pc (j_ald (pc + 1) 17) := aS_n fun lo st M r e => by
  unfold j_ald at e
  split at e
  · rename_i i a s
    obtain ⟨h12, h3, h4⟩ := bandE e (by simp)
    obtain ⟨h1, h2⟩ := (Bool.and_eq_true _ _).mp h12
    cases h4
    refine ⟨_, _, _, _, rfl, aN_rd (fun _ _ b => vok_c vok_i (vok_t (vok_t b))) (fun p l e R s m args below meth c H locs cells slots Q ls ad D cy C hK hE hP k9 => ?_)⟩
    have he := wl_at (cy := cy) (ad := ad) (blt_lt h1)
    rw [wE_I (nbT h2) (by omega)] at he
    exact va_zald C.1 C.2.1 hK hP a 3 he rfl (inb_in h3) hd k9
  · cases e
def j_lald (pc' : Nat) : aI := fun lo st M => match st with
  | .inl i :: .inr (.inr (some a)) :: s => bif (Nat.blt a (a_n M) && Nat.beq (a_K M a) 16) && inb i (a_N M a) then some (.inl (pc', lo, .inr (.inl (a_J M a i.toNatClampNeg)) :: s, M)) else none
  | _ => none
theorem S_laload {sc : aSc} {cI : Nat → aF} {F : aF} {pc : Nat} (hd : decode F.2.1 pc = .ok (.laload, 1)) : aS sc cI F pc (j_lald (pc + 1)) := aS_n fun lo st M r e => by
  unfold j_lald at e
  split at e
  · rename_i i a s
    obtain ⟨h12, h3, h4⟩ := bandE e (by simp)
    obtain ⟨h1, h2⟩ := (Bool.and_eq_true _ _).mp h12
    cases h4
    refine ⟨_, _, _, _, rfl, aN_rd (fun _ _ b => vok_c vok_j (vok_t (vok_t b))) (fun p l e R s m args below meth c H locs cells slots Q ls ad D cy C hK hE hP k9 => ?_)⟩
    have he := wl_at (cy := cy) (ad := ad) (blt_lt h1)
    rw [wE_J (nbT h2)] at he
    exact va_lald C.1 C.2.1 hK hP a 2 he rfl (inb_in h3) hd k9
  · cases e
def j_aald (pc' k : Nat) : aI := fun lo st M => match st with
  | .inl i :: .inr (.inr (some a)) :: s => bif (Nat.blt a (a_n M) && Nat.beq (a_K M a) k) && inb i (a_N M a) then some (.inl (pc', lo, .inr (.inr (a_P M a i.toNatClampNeg)) :: s, M)) else none
  | _ => none
theorem va_aald9 {p : Program} {l : Launch} {e : Env} {R : Room} {s : State} {m : MethodId} {args : Array Value} {below : List Frame} {meth : Method} {c : Code} {H : Heap} {locs : List Loc} {cells slots : Nat} {Q : State → Prop} {cc : ByteArray} {pc : Nat} {ls : Array Slot} {rest : List Value} {D : va_G} {cl : List vw_C} {a : Nat} {tys : List (ClassId × FieldType)} {ws : va_W} (hexec : p.tables.exec = Jvm.exec) (hb : c.code = cc) (hK : va_K D cl tys s) (hP : va_P D cl ws H) (q0 t0 : Nat) {cA : ClassId} {ty : FieldType} {n : Nat} {f : Nat → Option Nat} (ha : ws[q0]? = some (a, .inl (cA, n, .inr (.inr (.inr (.inr f)))))) (ht : tys[t0]? = some (cA, ty)) (hr : ty.isReference = true) {i : Int32} (hin : vp_in i n) (hdg : decode cc pc = .ok (.aaload, 1))
    (kk : W p l e R s m args below meth c H locs cells slots Q (F0 m (pc + 1) ls (va_rf (f i.toNatClampNeg) :: rest))) : W p l e R s m args below meth c H locs cells slots Q (F0 m pc ls (.int i :: .ref a :: rest)) := by
  have hlt : i.toNatClampNeg < n := Nat.not_le.mp fun q => hin (Or.inr q)
  exact W.aald (v := va_rf (f i.toNatClampNeg)) hexec hb (hP q0 _ ha) ((hK.2 t0 _ ht).1 n (fun j => va_rf (f j))) hr (fun q => by cases q) (by show ¬ (i < 0 ∨ (arrV _ _ _).slots.size ≤ _); rw [arrV_size]; exact hin) (by show (arrV _ _ _).slots[_]? = _; rw [arrV_read _ _ hlt]) rfl rfl hdg kk
theorem S_aaload {sc : aSc} {cI : Nat → aF} {F : aF} {pc k : Nat} (hk : k = 18 ∨ k = 19) (hd : decode F.2.1 pc = .ok (.aaload, 1)) : aS sc cI F pc (j_aald (pc + 1) k) := aS_n fun lo st M r e => by
  unfold j_aald at e
  split at e
  · rename_i i a s
    obtain ⟨h12, h3, h4⟩ := bandE e (by simp)
    obtain ⟨h1, h2⟩ := (Bool.and_eq_true _ _).mp h12
    cases h4
    refine ⟨_, _, _, _, rfl, aN_rd (fun g _ b => vok_c (fun j e => g.2 a _ j (Sum.inr.inj (Sum.inr.inj e))) (vok_t (vok_t b))) (fun p l e R s m args below meth c H locs cells slots Q ls ad D cy C hK hE hP k9 => ?_)⟩
    have he := wl_at (cy := cy) (ad := ad) (blt_lt h1)
    rw [wE_P (nbT h2) hk] at he
    rcases hk with rfl | rfl
    · exact va_aald9 C.1 C.2.1 hK hP a 4 he rfl rfl (inb_in h3) hd k9
    · exact va_aald9 C.1 C.2.1 hK hP a 5 he rfl rfl (inb_in h3) hd k9
  · cases e
def j_alen (pc' : Nat) : aI := fun lo st M => match st with
  | .inr (.inr (some a)) :: s => bif Nat.blt a (a_n M) && (Nat.ble 14 (a_K M a) && Nat.ble (a_K M a) 19) then some (.inl (pc', lo, .inl (Int32.ofNat (a_N M a)) :: s, M)) else none
  | _ => none
theorem S_alen {sc : aSc} {cI : Nat → aF} {F : aF} {pc : Nat} (hd : decode F.2.1 pc = .ok (.arraylength, 1)) : aS sc cI F pc (j_alen (pc + 1)) := aS_n fun lo st M r e => by
  unfold j_alen at e
  split at e
  · rename_i a s
    obtain ⟨h1, h2, h4⟩ := bandE e (by simp)
    obtain ⟨h2, h3⟩ := (Bool.and_eq_true _ _).mp h2
    cases h4
    refine ⟨_, _, _, _, rfl, aN_rd (fun _ _ b => vok_c vok_i (vok_t b)) (fun p l e R s m args below meth c H locs cells slots Q ls ad D cy C hK hE hP k9 => ?_)⟩
    have he := wl_at (cy := cy) (ad := ad) (blt_lt h1)
    have g2 := Nat.le_of_ble_eq_true h2
    have g3 := Nat.le_of_ble_eq_true h3
    generalize hk : a_K M a = k at g2 g3
    rcases (show k = 14 ∨ k = 15 ∨ k = 16 ∨ k = 17 ∨ k = 18 ∨ k = 19 by omega) with rfl | rfl | rfl | rfl | rfl | rfl
    · rw [wE_I hk (by omega)] at he; exact va_alen C.1 C.2.1 hK hP a 0 he rfl rfl hd k9
    · rw [wE_I hk (by omega)] at he; exact va_alen C.1 C.2.1 hK hP a 1 he rfl rfl hd k9
    · rw [wE_J hk] at he; exact va_alen C.1 C.2.1 hK hP a 2 he rfl rfl hd k9
    · rw [wE_I hk (by omega)] at he; exact va_alen C.1 C.2.1 hK hP a 3 he rfl rfl hd k9
    · rw [wE_P hk (by omega)] at he; exact va_alen C.1 C.2.1 hK hP a 4 he rfl rfl hd k9
    · rw [wE_P hk (by omega)] at he; exact va_alen C.1 C.2.1 hK hP a 5 he rfl rfl hd k9
  · cases e
-- stores
theorem ast_I {cy : Nat → ClassId} {ad : Nat → Nat} {M : aM} {a k j : Nat} {x : Int32} (ha : a < a_n M) (hk : a_K M a = k) (h3 : k = 14 ∨ k = 15 ∨ k = 17) : (wl cy ad M).set a (ad a, .inl (cy k, a_N M a, .inl (upd (a_I M a) j x))) = wl cy ad (s_I M a j x) := by
  have e : (.inl (cy k, a_N M a, .inl (upd (a_I M a) j x)) : va_E) = wE cy ad (s_I M a j x) a := by
    rw [wE_I (M := s_I M a j x) hk h3]
    show _ = (.inl (cy k, a_N M a, .inl (up2 (a_I M) a j x a)) : va_E)
    rw [up2_own]
  rw [e]
  exact wl_set rfl ha (fun b hb => wE_cong rfl rfl (up2_row hb) rfl (fun _ => rfl))
theorem ast_J {cy : Nat → ClassId} {ad : Nat → Nat} {M : aM} {a j : Nat} {x : Int64} (ha : a < a_n M) (hk : a_K M a = 16) : (wl cy ad M).set a (ad a, .inl (cy 16, a_N M a, .inr (.inl (vp_updL (a_J M a) j x)))) = wl cy ad (s_J M a j x) := by
  have e : (.inl (cy 16, a_N M a, .inr (.inl (vp_updL (a_J M a) j x))) : va_E) = wE cy ad (s_J M a j x) a := by
    rw [wE_J (M := s_J M a j x) hk]
    show _ = (.inl (cy 16, a_N M a, .inr (.inl (up2 (a_J M) a j x a))) : va_E)
    rw [up2_ownV]
    rfl
  rw [e]
  exact wl_set rfl ha (fun b hb => wE_cong rfl rfl rfl (up2_row hb) (fun _ => rfl))
def j_ast (g : Int32 → Int32) (pc' k : Nat) : aI := fun lo st M => match st with
  | .inl x :: .inl i :: .inr (.inr (some a)) :: s => bif (Nat.blt a (a_n M) && Nat.beq (a_K M a) k) && inb i (a_N M a) then some (.inl (pc', lo, s, s_I M a i.toNatClampNeg (g x))) else none
  | _ => none
theorem S_iastore {sc : aSc} {cI : Nat → aF} {F : aF} {pc : Nat} (hd : decode F.2.1 pc = .ok (.iastore, 1)) : aS sc cI F pc (j_ast (fun x => x) (pc + 1) 15) := aS_n fun lo st M r e => by
  unfold j_ast at e
  split at e
  · rename_i x i a s
    obtain ⟨h12, h3, h4⟩ := bandE e (by simp)
    obtain ⟨h1, h2⟩ := (Bool.and_eq_true _ _).mp h12
    cases h4
    refine ⟨_, _, _, _, rfl, aN_wr rfl rfl rfl (fun q g => ⟨vok_t (vok_t (vok_t q)), g⟩) (fun p l e R s m args below meth c H locs cells slots Q ls ad D cy A X hnm hK hE hP hD hS kk => ?_)⟩
    have he := wl_at (cy := cy) (ad := ad) (blt_lt h1)
    rw [wE_I (nbT h2) (by omega)] at he
    have hM := ast_I (cy := cy) (ad := ad) (j := i.toNatClampNeg) (x := x) (blt_lt h1) (nbT h2) (by omega)
    exact va_iast X.1 X.2.1 hK hP hD hS a 1 he rfl (inb_in h3) hd (fun H1 locs1 p1 d1 s1 => kk H1 locs1 (hM ▸ p1) (hM ▸ d1) s1)
  · cases e
theorem S_bastore {sc : aSc} {cI : Nat → aF} {F : aF} {pc : Nat} (hd : decode F.2.1 pc = .ok (.bastore, 1)) : aS sc cI F pc (j_ast (vp_nar .byte) (pc + 1) 14) := aS_n fun lo st M r e => by
  unfold j_ast at e
  split at e
  · rename_i x i a s
    obtain ⟨h12, h3, h4⟩ := bandE e (by simp)
    obtain ⟨h1, h2⟩ := (Bool.and_eq_true _ _).mp h12
    cases h4
    refine ⟨_, _, _, _, rfl, aN_wr rfl rfl rfl (fun q g => ⟨vok_t (vok_t (vok_t q)), g⟩) (fun p l e R s m args below meth c H locs cells slots Q ls ad D cy A X hnm hK hE hP hD hS kk => ?_)⟩
    have he := wl_at (cy := cy) (ad := ad) (blt_lt h1)
    rw [wE_I (nbT h2) (by omega)] at he
    have hM := ast_I (cy := cy) (ad := ad) (j := i.toNatClampNeg) (x := vp_nar .byte x) (blt_lt h1) (nbT h2) (by omega)
    exact va_bast X.1 X.2.1 hK hP hD hS a 0 he rfl (inb_in h3) hd (fun H1 locs1 p1 d1 s1 => kk H1 locs1 (hM ▸ p1) (hM ▸ d1) s1)
  · cases e
theorem S_zastore {sc : aSc} {cI : Nat → aF} {F : aF} {pc : Nat} (hd : decode F.2.1 pc = .ok (.bastore, 1)) : aS sc cI F pc (j_ast (vp_nar .boolean) (pc + 1) 17) := aS_n fun lo st M r e => by
  unfold j_ast at e
  split at e
  · rename_i x i a s
    obtain ⟨h12, h3, h4⟩ := bandE e (by simp)
    obtain ⟨h1, h2⟩ := (Bool.and_eq_true _ _).mp h12
    cases h4
    refine ⟨_, _, _, _, rfl, aN_wr rfl rfl rfl (fun q g => ⟨vok_t (vok_t (vok_t q)), g⟩) (fun p l e R s m args below meth c H locs cells slots Q ls ad D cy A X hnm hK hE hP hD hS kk => ?_)⟩
    have he := wl_at (cy := cy) (ad := ad) (blt_lt h1)
    rw [wE_I (nbT h2) (by omega)] at he
    have hM := ast_I (cy := cy) (ad := ad) (j := i.toNatClampNeg) (x := vp_nar .boolean x) (blt_lt h1) (nbT h2) (by omega)
    exact va_zast X.1 X.2.1 hK hP hD hS a 3 he rfl (inb_in h3) hd (fun H1 locs1 p1 d1 s1 => kk H1 locs1 (hM ▸ p1) (hM ▸ d1) s1)
  · cases e
def j_last (pc' : Nat) : aI := fun lo st M => match st with
  | .inr (.inl x) :: .inl i :: .inr (.inr (some a)) :: s => bif (Nat.blt a (a_n M) && Nat.beq (a_K M a) 16) && inb i (a_N M a) then some (.inl (pc', lo, s, s_J M a i.toNatClampNeg x)) else none
  | _ => none
theorem S_lastore {sc : aSc} {cI : Nat → aF} {F : aF} {pc : Nat} (hd : decode F.2.1 pc = .ok (.lastore, 1)) : aS sc cI F pc (j_last (pc + 1)) := aS_n fun lo st M r e => by
  unfold j_last at e
  split at e
  · rename_i x i a s
    obtain ⟨h12, h3, h4⟩ := bandE e (by simp)
    obtain ⟨h1, h2⟩ := (Bool.and_eq_true _ _).mp h12
    cases h4
    refine ⟨_, _, _, _, rfl, aN_wr rfl rfl rfl (fun q g => ⟨vok_t (vok_t (vok_t q)), g⟩) (fun p l e R s m args below meth c H locs cells slots Q ls ad D cy A X hnm hK hE hP hD hS kk => ?_)⟩
    have he := wl_at (cy := cy) (ad := ad) (blt_lt h1)
    rw [wE_J (nbT h2)] at he
    have hM := ast_J (cy := cy) (ad := ad) (j := i.toNatClampNeg) (x := x) (blt_lt h1) (nbT h2)
    exact va_last X.1 X.2.1 hK hP hD hS a 2 he rfl (inb_in h3) hd (fun H1 locs1 p1 d1 s1 => kk H1 locs1 (hM ▸ p1) (hM ▸ d1) s1)
  · cases e
-- new cells
theorem up1_ne {α : Type} {f : Nat → α} {a b : Nat} {v : α} (h : ¬ b = a) : up1 f a v b = f b := by rw [up1_eq, if_neg h]
theorem up1_self {α : Type} {f : Nat → α} {a : Nat} {v : α} : up1 f a v a = v := by rw [up1_eq, if_pos rfl]
theorem wl_new {cy : Nat → ClassId} {ad : Nat → Nat} {M : aM} {c z n q : Nat} (h : wf M) : agr (a_n M) ad (up1 ad (a_n M) q) ∧ wl cy ad M ++ [(q, wE cy (up1 ad (a_n M) q) (a_new M c z n) (a_n M))] = wl cy (up1 ad (a_n M) q) (a_new M c z n) := by
  have ha : agr (a_n M) ad (up1 ad (a_n M) q) := fun j hj => by
    rw [up1_eq, if_neg (fun e => by subst e; rcases hj with g | g; exact Nat.lt_irrefl _ g; exact absurd h.1 (Nat.not_lt.mpr g))]
  refine ⟨ha, ?_⟩
  have hq : up1 ad (a_n M) q (a_n M) = q := by rw [up1_eq, if_pos rfl]
  have e := wl_push (cy := cy) (ad := ad) (ad' := up1 ad (a_n M) q) (M := M) (M' := a_new M c z n) rfl (fun i hi => ha i (Or.inl hi)) (fun b hb => by
    have hne : ¬ b = a_n M := fun e => by rw [e] at hb; exact Nat.lt_irrefl _ hb
    refine wE_cong ?_ ?_ ?_ ?_ (fun j => ?_)
    · exact up1_ne hne
    · exact up1_ne hne
    · exact up1_ne hne
    · exact up1_ne hne
    · rw [show a_P (a_new M c z n) b = a_P M b from up1_ne hne]
      cases hp : a_P M b j with
      | none => rfl
      | some x => show some (up1 ad (a_n M) q x) = some (ad x); rw [ha x (h.2 b j x hp)])
  rw [hq] at e
  exact e
theorem wf_new {M : aM} {c z n : Nat} (h : wf M) (hn : a_n M + 1 < aSB) : wf (a_new M c z n) := ⟨hn, fun i k j e => by
  have e : up1 (a_P M) (a_n M) (fun _ => none) i k = some j := e
  rw [up1_eq] at e
  split at e
  · cases e
  · rcases h.2 i k j e with g | g
    · exact Or.inl (Nat.lt_succ_of_lt g)
    · exact Or.inr g⟩
theorem K_new {M : aM} {c z n : Nat} : a_K (a_new M c z n) (a_n M) = c := up1_self
theorem N_new {M : aM} {c z n : Nat} : a_N (a_new M c z n) (a_n M) = n := up1_self
theorem I_new {M : aM} {c z n : Nat} : a_I (a_new M c z n) (a_n M) = fun _ => 0 := up1_self
theorem J_new {M : aM} {c z n : Nat} : a_J (a_new M c z n) (a_n M) = fun _ => 0 := up1_self
theorem P_new {M : aM} {c z n : Nat} : a_P (a_new M c z n) (a_n M) = fun _ => none := up1_self
/-- a step that makes a cell -/
theorem aN_mk {sc : aSc} {F : aF} {pc : Nat} {lo : aL} {st : List aV} {M : aM} {pc' : Nat} {s' : List aV} {ci z n : Nat} (hb : a_n M + 1 < aSB) (hv : (∀ v ∈ st, vok (a_n M) v) → ∀ v ∈ s', vok (a_n M) v)
    (h : ∀ (p : Program) (l : Launch) (e : Env) (R : Room) (s : State) (m : MethodId) (args : Array Value) (below : List Frame) (meth : Method) (c : Code) (H : Heap) (locs : List Loc) (cells slots : Nat) (Q : State → Prop) (ls : Array Slot) (ad : Nat → Nat) (D : va_G) (cy : Nat → ClassId) (A : Nat → Prop),
      CallFix p m c F.2.1 F.2.2.1 s args TB F.1.cls → va_K D vwCl (tyK cy) s → aNst s → va_P D vwCl (wl cy ad M) H → va_D A (wl cy ad M) → va_S A s.heap H locs → (∀ q, s.heap.size ≤ q → A q) → cells + 1 ≤ R.cells → slots + z ≤ R.slots →
      (∀ (q : Nat) (H1 : Heap) (locs1 : List Loc), va_P D vwCl (wl cy ad M ++ [(q, wE cy (up1 ad (a_n M) q) (a_new M ci z n) (a_n M))]) H1 → va_D A (wl cy ad M ++ [(q, wE cy (up1 ad (a_n M) q) (a_new M ci z n) (a_n M))]) → va_S A s.heap H1 locs1 → W p l e R s m args below meth c H1 locs1 (cells + 1) (slots + z) Q (F0 m pc' ls (.ref q :: s'.map (tv ad)))) → W p l e R s m args below meth c H locs cells slots Q (F0 m pc ls (st.map (tv ad)))) : aN sc F pc lo st M pc' lo (.inr (.inr (some (a_n M))) :: s') (a_new M ci z n) := by
  refine ⟨⟨Nat.le_succ _, Nat.le_succ _, Nat.le_add_right _ _⟩, ?_⟩
  intro p l e R s m args below meth c D cy ad0 M0 Q hX hn0 hc hs hG ad H locs ls ha hW
  obtain ⟨hP, hD, hS, hwf, hl, hvl, hvs⟩ := hW
  have e1 : a_c (a_new M ci z n) - a_c M0 = a_c M - a_c M0 + 1 := by have := hn0.2.1; show a_c M + 1 - a_c M0 = _; omega
  have e2 : a_z (a_new M ci z n) - a_z M0 = a_z M - a_z M0 + z := by have := hn0.2.2; show a_z M + z - a_z M0 = _; omega
  rw [e1] at hc
  rw [e2] at hs
  refine h p l e R s m args below meth c H locs _ _ Q ls ad D cy (aA cy ad0 M0 s) hX.1 hX.2.2.2.2.1 hX.2.2.2.2.2.1.2 hP hD hS (fun q g => Or.inr g) hc hs (fun q H1 locs1 p1 d1 s1 => ?_)
  obtain ⟨g1, g2⟩ := wl_new (cy := cy) (ad := ad) (c := ci) (z := z) (n := n) (q := q) hwf
  rw [g2] at p1 d1
  have hvs' := hv hvs
  have hl' : lo.map (tq (up1 ad (a_n M) q)) = lo.map (tq ad) := List.map_congr_left (fun x hx => by unfold tq; rw [tv_agr g1 (hvl x hx)])
  have hs' : s'.map (tv (up1 ad (a_n M) q)) = s'.map (tv ad) := List.map_congr_left (fun x hx => tv_agr g1 (hvs' x hx))
  have := hG (up1 ad (a_n M) q) H1 locs1 ls (agr_tr hn0.1 ha g1) ⟨p1, d1, s1, wf_new hwf hb, by rw [hl']; exact hl, fun x hx => vok_up (Nat.le_succ _) (hvl x hx), vok_c (fun j e => Or.inl (by cases e; exact Nat.lt_succ_self _)) (fun x hx => vok_up (Nat.le_succ _) (hvs' x hx))⟩
  rw [e1, e2] at this
  have e3 : (.inr (.inr (some (a_n M))) :: s' : List aV).map (tv (up1 ad (a_n M) q)) = .ref q :: s'.map (tv ad) := by
    rw [List.map_cons, hs']
    show va_rf (some (up1 ad (a_n M) q (a_n M))) :: _ = _
    rw [up1_eq, if_pos rfl]
    rfl
  rw [e3] at this
  exact this
def j_new (pc' ci N : Nat) : aI := fun lo st M => bif Nat.blt (a_n M + 1) aSB then some (.inl (pc', lo, .inr (.inr (some (a_n M))) :: st, a_new M ci N 0)) else none
theorem bifE {a : Bool} {α : Type} {x y : α} (h : (bif a then some x else none) = some y) : a = true ∧ y = x := by
  cases a
  · cases h
  · exact ⟨rfl, (Option.some.inj h).symm⟩
def dfv (t : Nat) : Value := match t with
  | 0 => .int 0
  | 1 => .long 0
  | _ => .null
theorem S_new {sc : aSc} {cI : Nat → aF} {F : aF} {pc ci ix : Nat} {C : String} {T : u_T} {N : Nat} {ty : Nat → FieldType} (K : aKl ci C T N ty) (hty : ∀ j t, (lyt ci)[j]? = some t → defaultValue (ty j) = dfv t) (h1 : Cond.classLink F.1.cls ix C ∈ TB) (h2 : Cond.instantiable C N ∈ TB) (h3 : Cond.initialized C ∈ TB) (hd : decode F.2.1 pc = .ok (.new ix, 3)) : aS sc cI F pc (j_new (pc + 3) ci N) := aS_n fun lo st M r e => by
  unfold j_new at e
  obtain ⟨g1, g2⟩ := bifE e
  cases g2
  refine ⟨_, _, _, _, rfl, aN_mk (blt_lt g1) (fun h => h) (fun p l e R s m args below meth c H locs cells slots Q ls ad D cy A X hK hE hP hD hS hA hc hs kk => ?_)⟩
  have hE : ∀ q, wE cy (up1 ad (a_n M) q) (a_new M ci N 0) (a_n M) = .inr (ci, fsv (up1 ad (a_n M) 0) (a_new M ci N 0) (a_n M) 0 (lyt ci)) := fun q => by
    rw [wE_obj K_new K.2.1]
    exact congrArg (fun x => (.inr (ci, x) : va_E)) (fsv_cong (fun k t => by unfold vlt; rw [P_new]; rfl) (lyt ci) 0)
  refine va_new X.1 X.2.1 X.2.2.2.2 K.2.2.1 ty K.2.2.2.1 X.2.2.2.1 (X.2.2.2.2 _ h1) (X.2.2.2.2 _ h2) (X.2.2.2.2 _ h3) hK hP hD hS hA K.1 (fs := fsv (up1 ad (a_n M) 0) (a_new M ci N 0) (a_n M) 0 (lyt ci)) (fun j hj => ?_) hc hs hd (fun q H1 p1 d1 s1 => kk q H1 locs (by rw [hE]; exact p1) (by rw [hE]; exact d1) s1)
  have hj' : j < (lyt ci).length := by rw [K.2.2.2.2.2]; exact hj
  have hjt : (lyt ci)[j]? = some ((lyt ci)[j]) := List.getElem?_eq_getElem hj'
  rw [hty j _ hjt]
  unfold vp_V
  rw [List.getD_eq_getElem?_getD, fsv_at _ _ _ _ hjt]
  show _ = vlt _ _ _ _ _
  unfold vlt dfv
  rw [I_new, J_new, P_new]
  rfl
def j_newa (pc' k : Nat) : aI := fun lo st M => match st with
  | .inl x :: s => bif (!decide (x < 0) && Nat.ble x.toNatClampNeg 1000000) && Nat.blt (a_n M + 1) aSB then some (.inl (pc', lo, .inr (.inr (some (a_n M))) :: s, a_new M k x.toNatClampNeg x.toNatClampNeg)) else none
  | _ => none
theorem newa_go {sc : aSc} {F : aF} {pc k t0 : Nat} {at9 : ArrayType} {ty : FieldType} (hty : newarray.typeOf at9 = ty) (ha : Cond.arrayClass ty ∈ TB) (hb : componentBytes ty ≤ 8) (hk : ∀ cy, (tyK cy)[t0]? = some (cy k, ty)) (hra : ∀ (U : State) (c : ClassId), va_RA U c ty → U.vm.findClass ("[" ++ ty.toString) = some c) (a0 : Nat → vp_A) (ha0 : ∀ (cA : ClassId) (n : Nat), vp_cell cA (a0 n) = arrV cA n (fun _ => defaultValue ty)) (hd : decode F.2.1 pc = .ok (.newarray at9, 2)) {M : aM} {lo : aL} {x : Int32} {s : List aV} (hx : ¬ x < 0) (hn : x.toNatClampNeg ≤ 1000000) (hs : a_n M + 1 < aSB)
    (hE : ∀ (cy : Nat → ClassId) (ad : Nat → Nat), wE cy ad (a_new M k x.toNatClampNeg x.toNatClampNeg) (a_n M) = .inl (cy k, a0 x.toNatClampNeg)) : aN sc F pc lo (.inl x :: s) M (pc + 2) lo (.inr (.inr (some (a_n M))) :: s) (a_new M k x.toNatClampNeg x.toNatClampNeg) := by
  refine aN_mk hs (fun h => vok_t h) (fun p l e R s9 m args below meth c H locs cells slots Q ls ad D cy A X hK hE9 hP hD hS hA hc hz kk => ?_)
  refine va_newa X.1 X.2.1 (hty ▸ X.2.2.2.2 _ ha) hty hK hP hD hS hA (a0 := a0 x.toNatClampNeg) (fun cA => ha0 cA _) hx rfl (Nat.le_trans (Nat.mul_le_mul hn hb) (by decide)) hc hz hd (fun q cA H1 hK1 p1 d1 s1 => ?_)
  have h1 := hra _ _ (hK1.2 (tyK cy).length (cA, ty) (by simp)).2
  have h2 := hra _ _ (hK.2 t0 _ (hk cy)).2
  have h3 : cA = cy k := Option.some.inj (h1.symm.trans h2)
  subst h3
  exact kk q H1 locs (by rw [hE]; exact p1) (by rw [hE]; exact d1) s1
theorem newa_c {k : Nat} {lo : aL} {st : List aV} {M : aM} {pc' : Nat} {r : aR} (e : j_newa pc' k lo st M = some r) : ∃ x s, st = .inl x :: s ∧ ¬ x < 0 ∧ x.toNatClampNeg ≤ 1000000 ∧ a_n M + 1 < aSB ∧ r = .inl (pc', lo, .inr (.inr (some (a_n M))) :: s, a_new M k x.toNatClampNeg x.toNatClampNeg) := by
  unfold j_newa at e
  split at e
  · rename_i x s
    obtain ⟨h12, h3, h4⟩ := bandE e (by simp)
    obtain ⟨h1, h2⟩ := (Bool.and_eq_true _ _).mp h12
    exact ⟨x, s, rfl, of_decide_eq_false (by simpa using h1), Nat.le_of_ble_eq_true h2, blt_lt h3, Option.some.inj h4⟩
  · cases e
theorem S_newI {sc : aSc} {cI : Nat → aF} {F : aF} {pc : Nat} (ha : Cond.arrayClass .int ∈ TB) (hd : decode F.2.1 pc = .ok (.newarray .int, 2)) : aS sc cI F pc (j_newa (pc + 2) 15) := aS_n fun lo st M r e => by
  obtain ⟨x, s, rfl, h1, h2, h3, rfl⟩ := newa_c e
  exact ⟨_, _, _, _, rfl, newa_go (at9 := .int) (ty := .int) (t0 := 1) rfl ha (by decide) (fun _ => rfl) (fun _ _ h => h) (fun n => (n, .inl (fun _ => 0))) (fun _ _ => rfl) hd h1 h2 h3 (fun cy ad => by rw [wE_I K_new (by omega), N_new, I_new])⟩
theorem S_newB {sc : aSc} {cI : Nat → aF} {F : aF} {pc : Nat} (ha : Cond.arrayClass .byte ∈ TB) (hd : decode F.2.1 pc = .ok (.newarray .byte, 2)) : aS sc cI F pc (j_newa (pc + 2) 14) := aS_n fun lo st M r e => by
  obtain ⟨x, s, rfl, h1, h2, h3, rfl⟩ := newa_c e
  exact ⟨_, _, _, _, rfl, newa_go (at9 := .byte) (ty := .byte) (t0 := 0) rfl ha (by decide) (fun _ => rfl) (fun _ _ h => h) (fun n => (n, .inl (fun _ => 0))) (fun _ _ => rfl) hd h1 h2 h3 (fun cy ad => by rw [wE_I K_new (by omega), N_new, I_new])⟩
theorem S_newZ {sc : aSc} {cI : Nat → aF} {F : aF} {pc : Nat} (ha : Cond.arrayClass .boolean ∈ TB) (hd : decode F.2.1 pc = .ok (.newarray .boolean, 2)) : aS sc cI F pc (j_newa (pc + 2) 17) := aS_n fun lo st M r e => by
  obtain ⟨x, s, rfl, h1, h2, h3, rfl⟩ := newa_c e
  exact ⟨_, _, _, _, rfl, newa_go (at9 := .boolean) (ty := .boolean) (t0 := 3) rfl ha (by decide) (fun _ => rfl) (fun _ _ h => h) (fun n => (n, .inl (fun _ => 0))) (fun _ _ => rfl) hd h1 h2 h3 (fun cy ad => by rw [wE_I K_new (by omega), N_new, I_new])⟩
theorem S_newJ {sc : aSc} {cI : Nat → aF} {F : aF} {pc : Nat} (ha : Cond.arrayClass .long ∈ TB) (hd : decode F.2.1 pc = .ok (.newarray .long, 2)) : aS sc cI F pc (j_newa (pc + 2) 16) := aS_n fun lo st M r e => by
  obtain ⟨x, s, rfl, h1, h2, h3, rfl⟩ := newa_c e
  exact ⟨_, _, _, _, rfl, newa_go (at9 := .long) (ty := .long) (t0 := 2) rfl ha (by decide) (fun _ => rfl) (fun _ _ h => h) (fun n => (n, .inr (.inl (fun _ => 0)))) (fun _ _ => rfl) hd h1 h2 h3 (fun cy ad => by rw [wE_J K_new, N_new, J_new])⟩
-- arrays of references
theorem RA_obj {U : State} {c c' : ClassId} {C : String} (h : va_RA U c (.object C)) (h' : va_RA U c' (.object C)) : c = c' := by
  obtain ⟨_, _, _, _, _, g⟩ := h
  obtain ⟨_, _, _, _, _, g'⟩ := h'
  exact Option.some.inj (g.symm.trans g')
def j_newq (pc' : Nat) : aI := fun lo st M => match st with
  | .inl x :: s => bif (!decide (x < 0) && Nat.ble x.toNatClampNeg 1000000) && Nat.blt (a_n M + 1) aSB then some (.inl (pc', lo, .inr (.inr (some (a_n M))) :: s, a_new M 18 x.toNatClampNeg x.toNatClampNeg)) else none
  | _ => none
theorem S_newQ {sc : aSc} {cI : Nat → aF} {F : aF} {pc ix : Nat} (hw : Cond.classLink F.1.cls ix "DeepHole$Bit" ∈ TB) (hd : decode F.2.1 pc = .ok (.anewarray ix, 3)) : aS sc cI F pc (j_newq (pc + 3)) := aS_n fun lo st M r e => by
  unfold j_newq at e
  split at e
  · rename_i x s
    obtain ⟨h12, h3, h4⟩ := bandE e (by simp)
    obtain ⟨h1, h2⟩ := (Bool.and_eq_true _ _).mp h12
    cases h4
    have hx : ¬ x < 0 := of_decide_eq_false (by simpa using h1)
    refine ⟨_, _, _, _, rfl, aN_mk (blt_lt h3) (fun h => vok_t h) (fun p l e R s9 m args below meth c H locs cells slots Q ls ad D cy A X hK hE9 hP hD hS hA hc hz kk => ?_)⟩
    refine va_newq X.1 X.2.1 X.2.2.2.1 (X.2.2.2.2 _ hw) hE9.2.1 hK hP hD hS hA hx rfl (Nat.le_trans (Nat.mul_le_mul_right 4 (Nat.le_of_ble_eq_true h2)) (by decide)) hc hz hd (fun q cA H1 hK1 p1 d1 s1 => ?_)
    have h3 : cA = cy 18 := RA_obj (hK1.2 (tyK cy).length (cA, .object "DeepHole$Bit") (by simp)).2 (hK.2 4 (cy 18, .object "DeepHole$Bit") rfl).2
    subst h3
    have hE : ∀ q, wE cy (up1 ad (a_n M) q) (a_new M 18 x.toNatClampNeg x.toNatClampNeg) (a_n M) = .inl (cy 18, x.toNatClampNeg, .inr (.inr (.inr (.inr (fun _ => none))))) := fun q => by rw [wE_P K_new (by omega), N_new, P_new]; rfl
    exact kk q H1 locs (by rw [hE]; exact p1) (by rw [hE]; exact d1) s1
  · cases e
theorem ast_P {cy : Nat → ClassId} {ad : Nat → Nat} {M : aM} {a k j v : Nat} (ha : a < a_n M) (hk : a_K M a = k) (h3 : k = 18 ∨ k = 19) : (wl cy ad M).set a (ad a, .inl (cy k, a_N M a, .inr (.inr (.inr (.inr (va_up (fun j => (a_P M a j).map ad) j (some (ad v)))))))) = wl cy ad (s_P M a j (some v)) := by
  have e : (.inl (cy k, a_N M a, .inr (.inr (.inr (.inr (va_up (fun j => (a_P M a j).map ad) j (some (ad v))))))) : va_E) = wE cy ad (s_P M a j (some v)) a := by
    rw [wE_P (M := s_P M a j (some v)) hk h3]
    have : (fun i => (a_P (s_P M a j (some v)) a i).map ad) = va_up (fun j => (a_P M a j).map ad) j (some (ad v)) := funext fun i => by
      show (up2 (a_P M) a j (some v) a i).map ad = _
      rw [up2_ownV]
      unfold va_up
      by_cases g : i = j <;> simp [g]
    rw [this]
    rfl
  rw [e]
  exact wl_set rfl ha (fun b hb => wE_cong rfl rfl rfl rfl (fun i => by
    show (up2 (a_P M) a j (some v) b i).map ad = _
    rw [up2_eq, if_neg (fun q => hb q.1)]))
def j_aast (pc' : Nat) : aI := fun lo st M => match st with
  | .inr (.inr (some v)) :: .inl i :: .inr (.inr (some a)) :: s => bif ((Nat.blt a (a_n M) && Nat.beq (a_K M a) 18) && (Nat.blt v (a_n M) && Nat.beq (a_K M v) 1)) && inb i (a_N M a) then some (.inl (pc', lo, s, s_P M a i.toNatClampNeg (some v))) else none
  | _ => none
theorem S_aastore {sc : aSc} {cI : Nat → aF} {F : aF} {pc N : Nat} {T : u_T} {ty : Nat → FieldType} (K : aKl 1 "DeepHole$Bit" T N ty) (hd : decode F.2.1 pc = .ok (.aastore, 1)) : aS sc cI F pc (j_aast (pc + 1)) := aS_n fun lo st M r e => by
  unfold j_aast at e
  split at e
  · rename_i v i a s
    obtain ⟨h12, h3, h4⟩ := bandE e (by simp)
    obtain ⟨h12, h34⟩ := (Bool.and_eq_true _ _).mp h12
    obtain ⟨h1, h2⟩ := (Bool.and_eq_true _ _).mp h12
    obtain ⟨g1, g2⟩ := (Bool.and_eq_true _ _).mp h34
    cases h4
    refine ⟨_, _, _, _, rfl, aN_wr rfl rfl rfl (fun q g => ⟨vok_t (vok_t (vok_t q)), wf_P g (fun j e => by cases e; exact Or.inl (blt_lt g1))⟩) (fun p l e R s m args below meth c H locs cells slots Q ls ad D cy A X hnm hK hE hP hD hS kk => ?_)⟩
    have he := wl_at (cy := cy) (ad := ad) (blt_lt h1)
    rw [wE_P (nbT h2) (by omega)] at he
    have hv := wl_at (cy := cy) (ad := ad) (blt_lt g1)
    rw [wE_obj (nbT g2) K.2.1] at hv
    have hM := ast_P (cy := cy) (ad := ad) (j := i.toNatClampNeg) (v := v) (blt_lt h1) (nbT h2) (by omega)
    exact va_astq X.1 X.2.1 hK hP hD hS a 4 v 1 he (r := ("DeepHole$Bit", T, N)) rfl hv K.1 (inb_in h3) hd (fun H1 locs1 p1 d1 s1 => kk H1 locs1 (hM ▸ p1) (hM ▸ d1) s1)
  · cases e

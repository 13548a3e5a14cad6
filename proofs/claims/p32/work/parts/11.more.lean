/-! Texts, the script, arrays of arrays. -/
theorem ldcw_str {p : Program} {l : Launch} {e : Env} {R : Room} {s : State} {m : MethodId} {args : Array Value} {below : List Frame} {meth : Method} {c : Code} {T : State} {locs : List Loc} {cells slots : Nat}
    (X : Stand p l e R s m args below meth c T locs cells slots) (hexec : p.tables.exec = Jvm.exec) {own text : String} {index : Nat} {a : Addr} (hown : s.vm.findClass own = some m.cls)
    (hconst : (Cond.stringRef own index text).before args s = true) (hev : (Term.string own index).eval args s none [] s = some (.ref a)) {g : JFrame} (hg : g.method = m) (hdg : decode c.code g.pc = .ok (.ldc_w index, 3)) :
    ∀ target, Steps p.tables e below (T.setTop { g with pc := g.pc + 3, stack := .ref a :: g.stack }) target → Steps p.tables e below (T.setTop g) target := by
  obtain ⟨k, cf, i, a', hk, hcf, hcp, -, hr, hev'⟩ := Cond.stringRef_spec hown hconst
  cases hev.symm.trans hev'
  obtain ⟨k', hk', he⟩ := X.warmed.alike.2.2 _ _ hk
  have hr' : k'.resolved[index]? = some (some (.string a)) := by
    rcases X.warmed.entry hk hk' index with h | ⟨h, -⟩
    · rw [h]; exact hr
    · rw [hr] at h; cases h
  intro target hrest
  subst hg
  jvm_step X.here [hexec, hdg, ldc_w.wp_string (e := e) (s := T) (f := g) X.here.top hk' (by rw [he]; exact hcf) hcp hr']
  exact hrest
def j_str (pc' id : Nat) : aI := fun lo st M => some (.inl (pc', lo, .inr (.inr (some (aSB + id))) :: st, M))
theorem S_ldcS {sc : aSc} {cI : Nat → aF} {F : aF} {pc ix id : Nat} {tx : String} (hq : (F.1.cls, ix, tx, id) ∈ strT) (hd : decode F.2.1 pc = .ok (.ldc ix, 2)) : aS sc cI F pc (j_str (pc + 2) id) := aS_n fun lo st M r e => by
  cases e
  refine ⟨_, _, _, _, rfl, mle_rf, ?_⟩
  intro p l e R s m args below meth c D cy ad0 M0 Q hX hn hc hs hG ad H locs ls ha hW
  obtain ⟨hP, hD, hS, hwf, hl, hvl, hvs⟩ := hW
  have hw := hG ad H locs ls ha ⟨hP, hD, hS, hwf, hl, hvl, vok_c (fun j e => Or.inr (by cases e; exact Nat.le_add_right _ _)) hvs⟩
  have hz9 := hX.2.2.2.2.2.1.1 _ hq
  rw [List.map_cons, show tv ad (.inr (.inr (some (aSB + id)))) = .ref (ad0 (aSB + id)) from by rw [← ha _ (Or.inr (Nat.le_add_right _ _))]; rfl] at hw
  exact va_ldcS hX.1.1 hX.1.2.1 hX.1.2.2.2.1 hz9 hd hw
theorem S_ldcwS {sc : aSc} {cI : Nat → aF} {F : aF} {pc ix id : Nat} {tx : String} (hq : (F.1.cls, ix, tx, id) ∈ strT) (hd : decode F.2.1 pc = .ok (.ldc_w ix, 3)) : aS sc cI F pc (j_str (pc + 3) id) := aS_n fun lo st M r e => by
  cases e
  refine ⟨_, _, _, _, rfl, mle_rf, ?_⟩
  intro p l e R s m args below meth c D cy ad0 M0 Q hX hn hc hs hG ad H locs ls ha hW
  obtain ⟨hP, hD, hS, hwf, hl, hvl, hvs⟩ := hW
  have hw := hG ad H locs ls ha ⟨hP, hD, hS, hwf, hl, hvl, vok_c (fun j e => Or.inr (by cases e; exact Nat.le_add_right _ _)) hvs⟩
  have hz9 := hX.2.2.2.2.2.1.1 _ hq
  rw [List.map_cons, show tv ad (.inr (.inr (some (aSB + id)))) = .ref (ad0 (aSB + id)) from by rw [← ha _ (Or.inr (Nat.le_add_right _ _))]; rfl] at hw
  intro T hT X9
  obtain ⟨t, a1, b1⟩ := hw T hT X9
  exact ⟨t, ldcw_str X9 hX.1.1 hX.1.2.2.2.1 (text := tx) hz9.1 hz9.2 (g := F0 m pc ls (st.map (tv ad))) rfl (by rw [hX.1.2.1]; exact hd) t a1, b1⟩
-- the script
def j_sld (sc : aSc) (pc' : Nat) : aI := fun lo st M => match st with
  | .inl i :: .inr (.inr (some a)) :: s => bif Nat.beq a aXS && inb i sc.1 then some (.inl (pc', lo, .inl (sc.2.1 i.toNatClampNeg) :: s, M)) else none
  | _ => none
theorem S_sld {sc : aSc} {cI : Nat → aF} {F : aF} {pc : Nat} (hF : F.1 = yL_law) (hd : decode F.2.1 pc = .ok (.iaload, 1)) : aS sc cI F pc (j_sld sc (pc + 1)) := aS_n fun lo st M r e => by
  unfold j_sld at e
  split at e
  · rename_i i a s
    obtain ⟨h1, h2, h3⟩ := bandE e (by simp)
    cases h3
    have := nbT h1
    subst this
    refine ⟨_, _, _, _, rfl, mle_rf, ?_⟩
    intro p l e R s9 m args below meth c D cy ad0 M0 Q hX hn hc hs hG ad H locs ls ha hW
    obtain ⟨hP, hD, hS, hwf, hl, hvl, hvs⟩ := hW
    have hw := hG ad H locs ls ha ⟨hP, hD, hS, hwf, hl, hvl, vok_c vok_i (vok_t (vok_t hvs))⟩
    obtain ⟨x1, x2, x3, -⟩ := hX.2.2.2.2.2.2.2.2.2.2 hF
    have e1 : (.inl i :: .inr (.inr (some aXS)) :: s : List aV).map (tv ad) = .int i :: .ref (ad0 aXS) :: s.map (tv ad) := by
      rw [List.map_cons, List.map_cons, show tv ad (.inr (.inr (some aXS))) = .ref (ad0 aXS) from by rw [← ha aXS (Or.inr (Nat.le_add_right _ _))]; rfl]
      rfl
    rw [e1]
    exact va_sld hX.1.1 hX.1.2.1 x1 x2 x3 hS (inb_in h2) hd hw
  · cases e
def j_slen (sc : aSc) (pc' : Nat) : aI := fun lo st M => match st with
  | .inr (.inr (some a)) :: s => bif Nat.beq a aXS then some (.inl (pc', lo, .inl (Int32.ofNat sc.1) :: s, M)) else none
  | _ => none
theorem S_slen {sc : aSc} {cI : Nat → aF} {F : aF} {pc : Nat} (hF : F.1 = yL_law) (hd : decode F.2.1 pc = .ok (.arraylength, 1)) : aS sc cI F pc (j_slen sc (pc + 1)) := aS_n fun lo st M r e => by
  unfold j_slen at e
  split at e
  · rename_i a s
    obtain ⟨h1, h3⟩ := bifE e
    cases h3
    have := nbT h1
    subst this
    refine ⟨_, _, _, _, rfl, mle_rf, ?_⟩
    intro p l e R s9 m args below meth c D cy ad0 M0 Q hX hn hc hs hG ad H locs ls ha hW
    obtain ⟨hP, hD, hS, hwf, hl, hvl, hvs⟩ := hW
    have hw := hG ad H locs ls ha ⟨hP, hD, hS, hwf, hl, hvl, vok_c vok_i (vok_t hvs)⟩
    obtain ⟨x1, x2, x3, -⟩ := hX.2.2.2.2.2.2.2.2.2.2 hF
    have e1 : (.inr (.inr (some aXS)) :: s : List aV).map (tv ad) = .ref (ad0 aXS) :: s.map (tv ad) := by
      rw [List.map_cons, show tv ad (.inr (.inr (some aXS))) = .ref (ad0 aXS) from by rw [← ha aXS (Or.inr (Nat.le_add_right _ _))]; rfl]
    rw [e1]
    exact va_slen hX.1.1 hX.1.2.1 x1 x2 x3 hS hd hw
  · cases e
-- new int[n][k]
def inr9 (b n i : Nat) : Bool := Nat.blt b i && Nat.blt i (b + 1 + n)
def m3 {α : Type} (b n : Nat) (x y : α) (f : Nat → α) : Nat → α := fun i => bif Nat.beq i b then x else bif inr9 b n i then y else f i
theorem m3_0 {α : Type} {b n : Nat} {x y : α} {f : Nat → α} : m3 b n x y f b = x := by unfold m3; rw [Nat.beq_refl]; rfl
theorem m3_1 {α : Type} {b n j : Nat} {x y : α} {f : Nat → α} (h : j < n) : m3 b n x y f (b + 1 + j) = y := by
  unfold m3 inr9
  rw [nbF (by omega)]
  have h1 : Nat.blt b (b + 1 + j) = true := Nat.ble_eq_true_of_le (by omega)
  have h2 : Nat.blt (b + 1 + j) (b + 1 + n) = true := Nat.ble_eq_true_of_le (by omega)
  rw [h1, h2]
  rfl
theorem m3_2 {α : Type} {b n i : Nat} {x y : α} {f : Nat → α} (h : i < b ∨ b + 1 + n ≤ i) : m3 b n x y f i = f i := by
  unfold m3 inr9
  rw [nbF (by omega)]
  cases h1 : Nat.blt b i with
  | false => rfl
  | true =>
    cases h2 : Nat.blt i (b + 1 + n) with
    | false => rfl
    | true =>
      have := blt_lt h1
      have := blt_lt h2
      omega
def a_mna (M : aM) (n k : Nat) : aM := (M.1 + 1 + n, M.2.1 + n + n * k, M.2.2.1 + 1 + n, m3 M.1 n 19 15 M.2.2.2.1, m3 M.1 n n k M.2.2.2.2.1, m3 M.1 n (fun _ => 0) (fun _ => 0) M.2.2.2.2.2.1, m3 M.1 n (fun _ => 0) (fun _ => 0) M.2.2.2.2.2.2.1, m3 M.1 n (fun j => bif Nat.blt j n then some (M.1 + 1 + j) else none) (fun _ => none) M.2.2.2.2.2.2.2)
def ad_m (ad : Nat → Nat) (b n q : Nat) (r : Nat → Nat) : Nat → Nat := fun i => bif Nat.beq i b then q else bif inr9 b n i then r (i - (b + 1)) else ad i
theorem ad_m0 {ad : Nat → Nat} {b n q : Nat} {r : Nat → Nat} : ad_m ad b n q r b = q := by unfold ad_m; rw [Nat.beq_refl]; rfl
theorem ad_m1 {ad : Nat → Nat} {b n q j : Nat} {r : Nat → Nat} (h : j < n) : ad_m ad b n q r (b + 1 + j) = r j := by
  have := m3_1 (α := Nat) (b := b) (n := n) (x := q) (y := r j) (f := ad) h
  unfold m3 at this
  unfold ad_m
  rw [show b + 1 + j - (b + 1) = j by omega]
  exact this
theorem ad_m2 {ad : Nat → Nat} {b n q i : Nat} {r : Nat → Nat} (h : i < b ∨ b + 1 + n ≤ i) : ad_m ad b n q r i = ad i := by
  have := m3_2 (α := Nat) (b := b) (n := n) (i := i) (x := q) (y := r (i - (b + 1))) (f := ad) h
  unfold m3 at this
  unfold ad_m
  exact this
theorem wl_mna {cy : Nat → ClassId} {ad : Nat → Nat} {M : aM} {n k q : Nat} {r : Nat → Nat} (h : wf M) (hb : a_n M + 1 + n < aSB) : agr (a_n M) ad (ad_m ad (a_n M) n q r) ∧
    wl cy (ad_m ad (a_n M) n q r) (a_mna M n k) = (wl cy ad M ++ [(q, .inl (cy 19, n, .inr (.inr (.inr (.inr (fun j => if j < n then some (r j) else none))))))]) ++ (List.range n).map (fun j => (r j, .inl (cy 15, k, .inl (fun _ => 0)))) := by
  have ha : agr (a_n M) ad (ad_m ad (a_n M) n q r) := fun j hj => ad_m2 (by rcases hj with g | g; exact Or.inl g; exact Or.inr (by omega))
  refine ⟨ha, ?_⟩
  unfold wl
  rw [show a_n (a_mna M n k) = a_n M + 1 + n from rfl, List.range_add, List.range_succ, List.map_append, List.map_append, List.map_map]
  congr 1
  · congr 1
    · apply List.map_congr_left
      intro i hi
      have hi := List.mem_range.mp hi
      rw [ad_m2 (Or.inl hi)]
      congr 1
      refine wE_cong (m3_2 (Or.inl hi)) (m3_2 (Or.inl hi)) (m3_2 (Or.inl hi)) (m3_2 (Or.inl hi)) (fun j => ?_)
      rw [show a_P (a_mna M n k) i = a_P M i from m3_2 (Or.inl hi)]
      cases hp : a_P M i j with
      | none => rfl
      | some x => show some (ad_m ad (a_n M) n q r x) = some (ad x); rw [ha x (h.2 i j x hp)]
    · rw [List.map_cons, List.map_nil, ad_m0, wE_P (show a_K (a_mna M n k) (a_n M) = 19 from m3_0) (Or.inr rfl)]
      rw [show a_N (a_mna M n k) (a_n M) = n from m3_0, show a_P (a_mna M n k) (a_n M) = (fun j => bif Nat.blt j n then some (a_n M + 1 + j) else none) from m3_0]
      have : (fun j => (bif Nat.blt j n then some (a_n M + 1 + j) else none : Option Nat).map (ad_m ad (a_n M) n q r)) = (fun j => if j < n then some (r j) else none) := funext fun j => by
        by_cases g : j < n
        · rw [show Nat.blt j n = true from Nat.ble_eq_true_of_le g, if_pos g]
          show some _ = some _
          rw [ad_m1 g]
        · rw [show Nat.blt j n = false from Bool.eq_false_iff.mpr (fun z => g (blt_lt z)), if_neg g]
          rfl
      rw [this]
  · apply List.map_congr_left
    intro j hj
    have hj := List.mem_range.mp hj
    show (ad_m ad (a_n M) n q r (a_n M + 1 + j), wE cy (ad_m ad (a_n M) n q r) (a_mna M n k) (a_n M + 1 + j)) = _
    rw [ad_m1 hj, wE_I (show a_K (a_mna M n k) (a_n M + 1 + j) = 15 from m3_1 hj) (by omega)]
    rw [show a_N (a_mna M n k) (a_n M + 1 + j) = k from m3_1 hj, show a_I (a_mna M n k) (a_n M + 1 + j) = (fun _ => 0) from m3_1 hj]
theorem wf_mna {M : aM} {n k : Nat} (h : wf M) (hn : a_n M + 1 + n < aSB) : wf (a_mna M n k) := ⟨hn, fun i j x e => by
  have e : m3 (a_n M) n (fun j => bif Nat.blt j n then some (a_n M + 1 + j) else none) (fun _ => none) (a_P M) i j = some x := e
  rcases (show i = a_n M ∨ (∃ t, t < n ∧ i = a_n M + 1 + t) ∨ (i < a_n M ∨ a_n M + 1 + n ≤ i) by
    rcases Nat.lt_trichotomy i (a_n M) with g | g | g
    · exact Or.inr (Or.inr (Or.inl g))
    · exact Or.inl g
    · rcases Nat.lt_or_ge i (a_n M + 1 + n) with z | z
      · exact Or.inr (Or.inl ⟨i - (a_n M + 1), by omega, by omega⟩)
      · exact Or.inr (Or.inr (Or.inr z))) with g | ⟨t, g1, g2⟩ | g
  · subst g
    rw [m3_0] at e
    cases hb : Nat.blt j n with
    | false => rw [hb] at e; cases e
    | true =>
      rw [hb] at e
      cases e
      have := blt_lt hb
      exact Or.inl (by show _ < a_n M + 1 + n; omega)
  · rw [g2, m3_1 g1] at e
    cases e
  · rw [m3_2 g] at e
    rcases h.2 i j x e with z | z
    · exact Or.inl (by show _ < a_n M + 1 + n; omega)
    · exact Or.inr z⟩
def j_mna (pc' : Nat) : aI := fun lo st M => match st with
  | .inl k :: .inl n :: s => bif (!decide (n < 0) && !decide (k < 0)) && ((Nat.ble n.toNatClampNeg 1000 && Nat.ble k.toNatClampNeg 1000) && Nat.blt (a_n M + 1 + n.toNatClampNeg) aSB) then some (.inl (pc', lo, .inr (.inr (some (a_n M))) :: s, a_mna M n.toNatClampNeg k.toNatClampNeg)) else none
  | _ => none
set_option maxHeartbeats 2000000 in
theorem S_mna {sc : aSc} {cI : Nat → aF} {F : aF} {pc ix : Nat} (hw : Cond.classLink F.1.cls ix "[[I" ∈ TB) (h2 : Cond.arrayClass .int ∈ TB) (hd : decode F.2.1 pc = .ok (.multianewarray ix 2, 4)) : aS sc cI F pc (j_mna (pc + 4)) := aS_n fun lo st M r e => by
  unfold j_mna at e
  split at e
  · rename_i k n s
    obtain ⟨h12, h345, h6⟩ := bandE e (by simp)
    obtain ⟨g1, g2⟩ := (Bool.and_eq_true _ _).mp h12
    obtain ⟨h34, g5⟩ := (Bool.and_eq_true _ _).mp h345
    obtain ⟨g3, g4⟩ := (Bool.and_eq_true _ _).mp h34
    have g1 : ¬ n < 0 := of_decide_eq_false (by simpa using g1)
    have g2 : ¬ k < 0 := of_decide_eq_false (by simpa using g2)
    have g3 := Nat.le_of_ble_eq_true g3
    have g4 := Nat.le_of_ble_eq_true g4
    have g5 := blt_lt g5
    cases h6
    generalize hn9 : n.toNatClampNeg = n9 at g3 g5
    generalize hk9 : k.toNatClampNeg = k9 at g4
    refine ⟨_, _, _, _, rfl, ⟨by show a_n M ≤ a_n M + 1 + n9; omega, by show a_c M ≤ a_c M + 1 + n9; omega, by show a_z M ≤ a_z M + n9 + n9 * k9; omega⟩, ?_⟩
    intro p l e R s9 m args below meth c D cy ad0 M0 Q hX hn hc hs hG ad H locs ls ha hW
    obtain ⟨hP, hD, hS, hwf, hl, hvl, hvs⟩ := hW
    have e1 : a_c (a_mna M n9 k9) - a_c M0 = a_c M - a_c M0 + 1 + n9 := by have := hn.2.1; show a_c M + 1 + n9 - a_c M0 = _; omega
    have e2 : a_z (a_mna M n9 k9) - a_z M0 = a_z M - a_z M0 + n9 + n9 * k9 := by have := hn.2.2; show a_z M + n9 + n9 * k9 - a_z M0 = _; omega
    rw [e1] at hc
    rw [e2] at hs
    have hK := hX.2.2.2.2.1
    have hE := hX.2.2.2.2.2.1.2
    have hvs' := vok_t (vok_t hvs)
    refine va_mna (X := wl cy ad M) (L := []) (f := fun _ => .inr (0, [])) (ty := .int) (cy := cy 15) (z := (k9, .inl (fun _ => 0))) hX.1.1 hX.1.2.1 hX.1.2.2.2.1 (hX.1.2.2.2.2 _ hw) hE.2.2.1 (hX.1.2.2.2.2 _ h2) (hK.2 1 (cy 15, .int) rfl).2 hK (by rw [show va_pl [] (fun _ => .inr (0, [])) = ([] : va_W) from rfl, List.append_nil]; exact hP) (by rw [show va_pl [] (fun _ => .inr (0, [])) = ([] : va_W) from rfl, List.append_nil]; exact hD) hS (fun q g => Or.inr g) g1 g2 hn9 hk9
      (by omega) (Nat.le_trans (Nat.mul_le_mul_right _ g4) (by decide)) (by omega) rfl rfl (by omega) (by omega) (fun c => arrV_new c k9 (.int 0)) hd (fun q r cA H1 hr1 hr2 hK1 p1 d1 s1 => ?_)
    have h3 : cA = cy 19 := Option.some.inj (((hK1.2 (tyK cy).length (cA, .array .int) (by simp)).2 : s9.vm.findClass _ = some cA).symm.trans (hK.2 5 (cy 19, .array .int) rfl).2)
    subst h3
    obtain ⟨k1, k2⟩ := wl_mna (cy := cy) (ad := ad) (n := n9) (k := k9) (q := q) (r := r) hwf g5
    have e3 : va_pl ([] ++ (List.range n9).map r) (vr_up (fun _ => .inr (0, [])) ((List.range n9).map r) (.inl (cy 15, (k9, .inl (fun _ => 0))))) = (List.range n9).map (fun j => (r j, .inl (cy 15, k9, .inl (fun _ => 0)))) := by
      unfold va_pl
      rw [List.nil_append, List.map_map]
      apply List.map_congr_left
      intro j hj
      show (r j, vr_up _ _ _ (r j)) = _
      rw [vr_up_in (List.mem_map.mpr ⟨j, hj, rfl⟩)]
    rw [e3, ← k2] at p1 d1
    have hl' : lo.map (tq (ad_m ad (a_n M) n9 q r)) = lo.map (tq ad) := List.map_congr_left (fun x hx => by unfold tq; rw [tv_agr k1 (hvl x hx)])
    have hs' : s.map (tv (ad_m ad (a_n M) n9 q r)) = s.map (tv ad) := List.map_congr_left (fun x hx => tv_agr k1 (hvs' x hx))
    have hlt : a_n M ≤ a_n (a_mna M n9 k9) := by show a_n M ≤ a_n M + 1 + n9; omega
    have := hG (ad_m ad (a_n M) n9 q r) H1 locs ls (agr_tr hn.1 ha k1) ⟨p1, d1, s1, wf_mna hwf g5, by rw [hl']; exact hl, fun x hx => vok_up hlt (hvl x hx), vok_c (fun j e => Or.inl (by cases e; show _ < a_n M + 1 + n9; omega)) (fun x hx => vok_up hlt (hvs' x hx))⟩
    rw [e1, e2] at this
    have e4 : (.inr (.inr (some (a_n M))) :: s : List aV).map (tv (ad_m ad (a_n M) n9 q r)) = .ref q :: s.map (tv ad) := by
      rw [List.map_cons, hs']
      show va_rf (some (ad_m ad (a_n M) n9 q r (a_n M))) :: _ = _
      rw [ad_m0]
      rfl
    rw [e4] at this
    exact this
  · cases e

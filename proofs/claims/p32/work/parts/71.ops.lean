/-! Operations on ints. -/
theorem add_i {x y : Int32} (h1 : i32a ≤ x.toInt + y.toInt) (h2 : x.toInt + y.toInt ≤ i32b) : (x + y).toInt = x.toInt + y.toInt := by
  rw [Int32.toInt_add]
  exact Int.bmod_eq_of_le (by have : i32a = -2147483648 := rfl; omega) (by have : i32b = 2147483647 := rfl; omega)
theorem sub_i {x y : Int32} (h1 : i32a ≤ x.toInt - y.toInt) (h2 : x.toInt - y.toInt ≤ i32b) : (x - y).toInt = x.toInt - y.toInt := by
  rw [Int32.toInt_sub]
  exact Int.bmod_eq_of_le (by have : i32a = -2147483648 := rfl; omega) (by have : i32b = 2147483647 := rfl; omega)
theorem mul_i {x y : Int32} (h1 : i32a ≤ x.toInt * y.toInt) (h2 : x.toInt * y.toInt ≤ i32b) : (x * y).toInt = x.toInt * y.toInt := by
  rw [Int32.toInt_mul]
  generalize x.toInt * y.toInt = w at h1 h2 ⊢
  exact Int.bmod_eq_of_le (by have : i32a = -2147483648 := rfl; omega) (by have : i32b = 2147483647 := rfl; omega)
theorem neg_i {x : Int32} (h1 : i32a < x.toInt) : (-x).toInt = -x.toInt := by
  have h2 := (i32_bd x).2
  rw [Int32.toInt_neg]
  exact Int.bmod_eq_of_le (by have : i32a = -2147483648 := rfl; have : i32b = 2147483647 := rfl; omega) (by have : i32a = -2147483648 := rfl; omega)
theorem and_i {x y : Int32} (h : 0 ≤ y.toInt) : 0 ≤ (x &&& y).toInt ∧ (x &&& y).toInt ≤ y.toInt := by
  have hy : y.toInt = (y.toBitVec.toNat : Int) := by
    have h0 : y.toInt = y.toBitVec.toInt := rfl
    rw [h0, BitVec.toInt_eq_toNat_cond] at h ⊢
    split at h <;> rename_i hh
    · rw [if_pos hh]
    · have := y.toBitVec.isLt
      omega
  have hlt : 2 * y.toBitVec.toNat < 2 ^ 32 := by
    have h0 : y.toInt = y.toBitVec.toInt := rfl
    rw [h0, BitVec.toInt_eq_toNat_cond] at hy
    split at hy <;> rename_i hh
    · exact hh
    · have := y.toBitVec.isLt
      omega
  have hle : (x &&& y).toBitVec.toNat ≤ y.toBitVec.toNat := by
    rw [Int32.toBitVec_and, BitVec.toNat_and]
    exact Nat.and_le_right
  have hxy : (x &&& y).toInt = ((x &&& y).toBitVec.toNat : Int) := by
    have h0 : (x &&& y).toInt = (x &&& y).toBitVec.toInt := rfl
    rw [h0, BitVec.toInt_eq_toNat_cond, if_pos (by omega)]
  omega
theorem div_i {x y : Int32} (h : 1 ≤ y.toInt) : (x / y).toInt = x.toInt.tdiv y.toInt := Int32.toInt_div_of_ne_right _ _ (fun e => by rw [e] at h; exact absurd h (by decide))
theorem tdiv_bd {a b : Int} (h : 1 ≤ b) : (0 ≤ a → 0 ≤ a.tdiv b ∧ a.tdiv b ≤ a) ∧ (a ≤ 0 → a ≤ a.tdiv b ∧ a.tdiv b ≤ 0) := by
  have key : ∀ c : Int, 0 ≤ c → 0 ≤ c.tdiv b ∧ c.tdiv b ≤ c := fun c hc => ⟨Int.tdiv_nonneg hc (by omega), Int.tdiv_le_self b hc⟩
  refine ⟨key a, fun ha => ?_⟩
  have := key (-a) (by omega)
  rw [Int.neg_tdiv] at this
  omega
theorem rem_i {x y : Int32} (h : 1 ≤ y.toInt) : (x - x / y * y).toInt = x.toInt.tmod y.toInt := by
  have hx := i32_bd x
  have hd := div_i (x := x) h
  have hb := tdiv_bd (a := x.toInt) h
  have hm : x.toInt.tdiv y.toInt * y.toInt = x.toInt - x.toInt.tmod y.toInt := by
    have := Int.tmod_add_tdiv_mul x.toInt y.toInt
    omega
  have hr1 : 0 ≤ x.toInt → 0 ≤ x.toInt.tmod y.toInt ∧ x.toInt.tmod y.toInt ≤ x.toInt := fun h0 => by
    have h1 := Int.tmod_nonneg y.toInt h0
    have h2 : 0 ≤ x.toInt.tdiv y.toInt * y.toInt := Int.mul_nonneg (hb.1 h0).1 (by omega)
    omega
  have hr2 : x.toInt ≤ 0 → x.toInt ≤ x.toInt.tmod y.toInt ∧ x.toInt.tmod y.toInt ≤ 0 := fun h0 => by
    have h1 := Int.tmod_nonneg y.toInt (show 0 ≤ -x.toInt by omega)
    rw [Int.neg_tmod] at h1
    have h2 : 0 ≤ (-x.toInt.tdiv y.toInt) * y.toInt := Int.mul_nonneg (by have := hb.2 h0; omega) (by omega)
    have h3 : (-x.toInt.tdiv y.toInt) * y.toInt = -(x.toInt.tdiv y.toInt * y.toInt) := Int.neg_mul _ _
    omega
  have e1 : i32a = -2147483648 := rfl
  have e2 : i32b = 2147483647 := rfl
  have hp : (x / y * y).toInt = x.toInt.tdiv y.toInt * y.toInt := by
    rw [mul_i, hd]
    · rw [hd]
      rcases Int.le_total 0 x.toInt with h0 | h0
      · have := hr1 h0; omega
      · have := hr2 h0; omega
    · rw [hd]
      rcases Int.le_total 0 x.toInt with h0 | h0
      · have := hr1 h0; omega
      · have := hr2 h0; omega
  rw [sub_i, hp]
  · omega
  · rw [hp]
    rcases Int.le_total 0 x.toInt with h0 | h0
    · have := hr1 h0; omega
    · have := hr2 h0; omega
  · rw [hp]
    rcases Int.le_total 0 x.toInt with h0 | h0
    · have := hr1 h0; omega
    · have := hr2 h0; omega
def ynew (E : yE) (l h : Int) : Option (yE × (Nat × Int)) := some (E ++ [(l, h)], (E.length, 0))
def ytop (E : yE) : Option (yE × (Nat × Int)) := ynew E i32a i32b
theorem ynew_ok {E E' : yE} {s : Nat × Int} {ρ : List Int} {x : Int32} {l h : Int} (e : ynew E l h = some (E', s)) (hE : gE E ρ) (h1 : l ≤ x.toInt) (h2 : x.toInt ≤ h) : yI E' s ρ x := by
  cases e
  exact yI_new hE h1 h2
theorem ytop_ok {E E' : yE} {s : Nat × Int} {ρ : List Int} {x : Int32} (e : ytop E = some (E', s)) (hE : gE E ρ) : yI E' s ρ x := ynew_ok e hE (i32_bd x).1 (i32_bd x).2
def y_bin (f : Nat) (E : yE) (s t : Nat × Int) : Option (yE × (Nat × Int)) := match yb E s, yb E t with
  | some p, some q =>
    if f = 0 then (if i32a ≤ p.1 + q.1 ∧ p.2 + q.2 ≤ i32b then (if q.1 = q.2 then some (E, (s.1, s.2 + q.1)) else if p.1 = p.2 then some (E, (t.1, t.2 + p.1)) else ynew E (p.1 + q.1) (p.2 + q.2)) else ytop E)
    else if f = 1 then (if i32a ≤ p.1 - q.2 ∧ p.2 - q.1 ≤ i32b then (if q.1 = q.2 then some (E, (s.1, s.2 - q.1)) else ynew E (p.1 - q.2) (p.2 - q.1)) else ytop E)
    else if f = 3 then (if 0 ≤ q.1 then ynew E 0 q.2 else ytop E)
    else if f = 2 then (if p.1 = p.2 ∧ 0 ≤ p.1 ∧ i32a ≤ p.1 * q.1 ∧ p.1 * q.2 ≤ i32b then ynew E (p.1 * q.1) (p.1 * q.2) else if q.1 = q.2 ∧ 0 ≤ q.1 ∧ i32a ≤ p.1 * q.1 ∧ p.2 * q.1 ≤ i32b then ynew E (p.1 * q.1) (p.2 * q.1) else ytop E)
    else ytop E
  | _, _ => none
def binf (f : Nat) : Int32 → Int32 → Int32 := match f with
  | 0 => fun x y => x + y
  | 1 => fun x y => x - y
  | 2 => fun x y => x * y
  | 3 => fun x y => x &&& y
  | 4 => fun x y => x <<< (y &&& 31)
  | 5 => fun x y => x >>> (y &&& 31)
  | 6 => fun x y => (x.toUInt32 >>> (y.toUInt32 &&& Int32.toUInt32 31)).toInt32
  | _ => fun x y => x ^^^ y
theorem y_bin_ok {f : Nat} {E E' : yE} {s t r : Nat × Int} {ρ : List Int} {τ : List Nat} {x y : Int32} (e : y_bin f E s t = some (E', r)) (hE : gE E ρ) (hx : yv ρ τ (.inl s) (.inl x)) (hy : yv ρ τ (.inl t) (.inl y)) : yI E' r ρ (binf f x y) := by
  unfold y_bin at e
  split at e
  · rename_i p q hp hq
    have bx := yb_ok hp hE hx
    have bY := yb_ok hq hE hy
    obtain ⟨zx, x1, x2⟩ := hx
    obtain ⟨zy, y1, y2⟩ := hy
    split at e
    · rename_i hf
      subst hf
      show yI E' r ρ (x + y)
      split at e
      · rename_i hb
        have ha := add_i (x := x) (y := y) (by omega) (by omega)
        split at e
        · rename_i hq2
          cases e
          exact yI_same hE x1 (by show _ = zx + (s.2 + q.1); omega)
        · split at e
          · cases e
            exact yI_same hE y1 (by show _ = zy + (t.2 + p.1); omega)
          · exact ynew_ok e hE (by omega) (by omega)
      · exact ytop_ok e hE
    · split at e
      · rename_i hf
        subst hf
        show yI E' r ρ (x - y)
        split at e
        · rename_i hb
          have ha := sub_i (x := x) (y := y) (by omega) (by omega)
          split at e
          · cases e
            exact yI_same hE x1 (by show _ = zx + (s.2 - q.1); omega)
          · exact ynew_ok e hE (by omega) (by omega)
        · exact ytop_ok e hE
      · split at e
        · rename_i hf
          subst hf
          show yI E' r ρ (x &&& y)
          split at e
          · have ha := and_i (x := x) (y := y) (by omega)
            exact ynew_ok e hE ha.1 (by omega)
          · exact ytop_ok e hE
        · split at e
          · rename_i hf
            subst hf
            show yI E' r ρ (x * y)
            split at e
            · rename_i hc
              obtain ⟨c1, c2, c3, c4⟩ := hc
              have hxp : x.toInt = p.1 := by omega
              have k1 : p.1 * q.1 ≤ x.toInt * y.toInt := by rw [hxp]; exact Int.mul_le_mul_of_nonneg_left bY.1 c2
              have k2 : x.toInt * y.toInt ≤ p.1 * q.2 := by rw [hxp]; exact Int.mul_le_mul_of_nonneg_left bY.2 c2
              have hm := mul_i (x := x) (y := y) (by omega) (by omega)
              exact ynew_ok e hE (by omega) (by omega)
            · split at e
              · rename_i hc
                obtain ⟨c1, c2, c3, c4⟩ := hc
                have hyq : y.toInt = q.1 := by omega
                have k1 : p.1 * q.1 ≤ x.toInt * y.toInt := by rw [hyq]; exact Int.mul_le_mul_of_nonneg_right bx.1 c2
                have k2 : x.toInt * y.toInt ≤ p.2 * q.1 := by rw [hyq]; exact Int.mul_le_mul_of_nonneg_right bx.2 c2
                have hm := mul_i (x := x) (y := y) (by omega) (by omega)
                exact ynew_ok e hE (by omega) (by omega)
              · exact ytop_ok e hE
          · exact ytop_ok e hE
  · cases e
/-- division (0) and rest (1) by what is above 0 -/
def y_div (f : Nat) (E : yE) (s t : Nat × Int) : Option (yE × (Nat × Int)) := match yb E s, yb E t with
  | some p, some q => if q.2 ≤ -1 then ytop E else if 1 ≤ q.1 then (if f = 0 then (if q.1 = q.2 ∧ 0 ≤ p.1 then ynew E (p.1 / q.1) (p.2 / q.1) else ynew E (min p.1 0) (max p.2 0)) else ynew E (if 0 ≤ p.1 then 0 else 1 - q.2) (q.2 - 1)) else none
  | _, _ => none
def divf (f : Nat) : Int32 → Int32 → Int32 := match f with
  | 0 => fun x y => x / y
  | _ => fun x y => x - x / y * y
theorem y_div_ok {f : Nat} {E E' : yE} {s t r : Nat × Int} {ρ : List Int} {τ : List Nat} {x y : Int32} (e : y_div f E s t = some (E', r)) (hE : gE E ρ) (hx : yv ρ τ (.inl s) (.inl x)) (hy : yv ρ τ (.inl t) (.inl y)) : y ≠ 0 ∧ yI E' r ρ (divf f x y) := by
  unfold y_div at e
  split at e
  · rename_i p q hp hq
    have bx := yb_ok hp hE hx
    have bY := yb_ok hq hE hy
    split at e
    · rename_i h1
      refine ⟨fun z => ?_, ytop_ok e hE⟩
      rw [z] at bY
      have : (0 : Int32).toInt = 0 := rfl
      omega
    · rename_i h0
      split at e
      · rename_i h1
        have hy1 : 1 ≤ y.toInt := by omega
        refine ⟨fun z => by rw [z] at hy1; exact absurd hy1 (by decide), ?_⟩
        split at e
        · rename_i hf
          subst hf
          show yI E' r ρ (x / y)
          have hb := tdiv_bd (a := x.toInt) hy1
          have hd := div_i (x := x) hy1
          split at e
          · rename_i hq
            have hyq : y.toInt = q.1 := by omega
            have h0 : x.toInt.tdiv y.toInt = x.toInt / q.1 := by rw [hyq]; exact Int.tdiv_eq_ediv_of_nonneg (by omega)
            have k1 := Int.ediv_le_ediv (show 0 < q.1 by omega) bx.1
            have k2 := Int.ediv_le_ediv (show 0 < q.1 by omega) bx.2
            exact ynew_ok e hE (by omega) (by omega)
          refine ynew_ok e hE ?_ ?_
          · rcases Int.le_total 0 x.toInt with h0 | h0
            · have := hb.1 h0; omega
            · have := hb.2 h0; omega
          · rcases Int.le_total 0 x.toInt with h0 | h0
            · have := hb.1 h0; omega
            · have := hb.2 h0; omega
        · rename_i hf
          have hg : divf f x y = x - x / y * y := by
            match f, hf with
            | 0, hf => exact absurd rfl hf
            | f + 1, _ => rfl
          rw [hg]
          have hd := rem_i (x := x) hy1
          have hlt := Int.tmod_lt_of_pos x.toInt (show 0 < y.toInt by omega)
          refine ynew_ok e hE ?_ (by omega)
          split
          · have := Int.tmod_nonneg y.toInt (show 0 ≤ x.toInt by omega)
            omega
          · have h3 := Int.tmod_lt_of_pos (-x.toInt) (show 0 < y.toInt by omega)
            rw [Int.neg_tmod] at h3
            omega
      · cases e
  · cases e
def y_un (f : Nat) (E : yE) (s : Nat × Int) : Option (yE × (Nat × Int)) := match yb E s with
  | some p => if f = 0 ∧ i32a < p.1 then ynew E (-p.2) (-p.1) else ytop E
  | none => none
def unf (f : Nat) : Int32 → Int32 := match f with
  | 0 => fun x => -x
  | _ => fun x => x.toInt8.toInt32
theorem y_un_ok {f : Nat} {E E' : yE} {s r : Nat × Int} {ρ : List Int} {τ : List Nat} {x : Int32} (e : y_un f E s = some (E', r)) (hE : gE E ρ) (hx : yv ρ τ (.inl s) (.inl x)) : yI E' r ρ (unf f x) := by
  unfold y_un at e
  split at e
  · rename_i p hp
    have bx := yb_ok hp hE hx
    split at e
    · rename_i h
      obtain ⟨rfl, h⟩ := h
      have hn := neg_i (x := x) (by omega)
      exact ynew_ok e hE (by show _ ≤ (-x).toInt; omega) (by show (-x).toInt ≤ _; omega)
    · exact ytop_ok e hE
  · cases e
/-! Branches: bounds made narrower. none: can't be. -/
def ysH (E : yE) (j : Nat) (h : Int) : Option yE := match E[j]? with
  | some b => if b.1 ≤ min b.2 h then some (E.set j (b.1, min b.2 h)) else none
  | none => none
def ysL (E : yE) (j : Nat) (l : Int) : Option yE := match E[j]? with
  | some b => if max b.1 l ≤ b.2 then some (E.set j (max b.1 l, b.2)) else none
  | none => none
theorem gE_set {E : yE} {ρ : List Int} {j : Nat} {l h z : Int} (hE : gE E ρ) (hz : ρ[j]? = some z) (h1 : l ≤ z) (h2 : z ≤ h) : gE (E.set j (l, h)) ρ := by
  refine ⟨by rw [List.length_set]; exact hE.1, fun i b y e1 e2 => ?_⟩
  rw [List.getElem?_set] at e1
  split at e1
  · rename_i hij
    subst hij
    split at e1
    · cases e1
      rw [hz] at e2
      cases e2
      exact ⟨h1, h2⟩
    · cases e1
  · exact hE.2 _ _ _ e1 e2
theorem gE_at {E : yE} {ρ : List Int} {j : Nat} {z : Int} (hE : gE E ρ) (hz : ρ[j]? = some z) : ∃ b, E[j]? = some b ∧ b.1 ≤ z ∧ z ≤ b.2 := by
  have hj : j < E.length := by rw [hE.1]; exact (List.getElem?_eq_some_iff.mp hz).1
  have he : E[j]? = some E[j] := List.getElem?_eq_getElem hj
  exact ⟨_, he, hE.2 _ _ _ he hz⟩
theorem ysH_ok {E : yE} {ρ : List Int} {j : Nat} {h z : Int} (hE : gE E ρ) (hz : ρ[j]? = some z) (h2 : z ≤ h) : ∃ E', ysH E j h = some E' ∧ gE E' ρ := by
  obtain ⟨b, he, hb⟩ := gE_at hE hz
  unfold ysH
  rw [he]
  simp only
  rw [if_pos (by omega)]
  exact ⟨_, rfl, gE_set hE hz hb.1 (by omega)⟩
theorem ysL_ok {E : yE} {ρ : List Int} {j : Nat} {l z : Int} (hE : gE E ρ) (hz : ρ[j]? = some z) (h2 : l ≤ z) : ∃ E', ysL E j l = some E' ∧ gE E' ρ := by
  obtain ⟨b, he, hb⟩ := gE_at hE hz
  unfold ysL
  rw [he]
  simp only
  rw [if_pos (by omega)]
  exact ⟨_, rfl, gE_set hE hz (by omega) hb.2⟩
/-- x ≤ y -/
def y_le (E : yE) (s t : Nat × Int) : Option yE := match yb E s, yb E t with
  | some p, some q => (ysH E s.1 (q.2 - s.2)).bind (fun E1 => ysL E1 t.1 (p.1 - t.2))
  | _, _ => none
theorem y_le_ok {E : yE} {s t : Nat × Int} {ρ : List Int} {zs zt : Int} (hE : gE E ρ) (hs : ρ[s.1]? = some zs) (ht : ρ[t.1]? = some zt) (h : zs + s.2 ≤ zt + t.2) : ∃ E', y_le E s t = some E' ∧ gE E' ρ := by
  obtain ⟨p, es, bs⟩ := gE_at hE hs
  obtain ⟨q, et, bt⟩ := gE_at hE ht
  unfold y_le yb
  rw [es, et]
  simp only
  obtain ⟨E1, e1, g1⟩ := ysH_ok (j := s.1) (h := q.2 + t.2 - s.2) hE hs (by omega)
  rw [e1]
  obtain ⟨E2, e2, g2⟩ := ysL_ok (j := t.1) (l := p.1 + s.2 - t.2) g1 ht (by omega)
  exact ⟨E2, e2, g2⟩
/-- x ≠ y: of use where one is known and at the other's edge -/
def y_ne (E : yE) (s t : Nat × Int) : Option yE := match yb E s, yb E t with
  | some p, some q =>
    if q.1 = q.2 then (if p.1 = q.1 then ysL E s.1 (p.1 + 1 - s.2) else if p.2 = q.1 then ysH E s.1 (p.2 - 1 - s.2) else some E)
    else if p.1 = p.2 then (if q.1 = p.1 then ysL E t.1 (q.1 + 1 - t.2) else if q.2 = p.1 then ysH E t.1 (q.2 - 1 - t.2) else some E)
    else some E
  | _, _ => none
theorem y_ne_ok {E : yE} {s t : Nat × Int} {ρ : List Int} {zs zt : Int} (hE : gE E ρ) (hs : ρ[s.1]? = some zs) (ht : ρ[t.1]? = some zt) (h : zs + s.2 ≠ zt + t.2) : ∃ E', y_ne E s t = some E' ∧ gE E' ρ := by
  obtain ⟨p, es, bs⟩ := gE_at hE hs
  obtain ⟨q, et, bt⟩ := gE_at hE ht
  unfold y_ne yb
  rw [es, et]
  simp only
  split
  · split
    · exact ysL_ok hE hs (by omega)
    · split
      · exact ysH_ok hE hs (by omega)
      · exact ⟨E, rfl, hE⟩
  · split
    · split
      · exact ysL_ok hE ht (by omega)
      · split
        · exact ysH_ok hE ht (by omega)
        · exact ⟨E, rfl, hE⟩
    · exact ⟨E, rfl, hE⟩
/-- how a comparison's outcome narrows: 0 x < y, 1 x = y, 2 x ≤ y, 3 y < x, 4 y ≤ x, 5 x ≠ y -/
def y_cmp (f : Nat) (E : yE) (s t : Nat × Int) : Option yE := match f with
  | 0 => y_le E (s.1, s.2 + 1) t
  | 1 => (y_le E s t).bind (fun E1 => y_le E1 t s)
  | 2 => y_le E s t
  | 3 => y_le E (t.1, t.2 + 1) s
  | 4 => y_le E t s
  | _ => y_ne E s t
/-- all that a comparison's outcome may be: where x ≠ y, x < y or y < x -/
def y_cml (f : Nat) (E : yE) (s t : Nat × Int) : List yE := match f with
  | 5 => (y_le E (s.1, s.2 + 1) t).toList ++ (y_le E (t.1, t.2 + 1) s).toList
  | f => (y_cmp f E s t).toList
def cmpf (f : Nat) : Int32 → Int32 → Bool := match f with
  | 0 => fun x y => decide (x < y)
  | 1 => fun x y => decide (x = y)
  | 2 => fun x y => decide (x ≤ y)
  | 3 => fun x y => decide (y < x)
  | 4 => fun x y => decide (y ≤ x)
  | _ => fun x y => decide (¬ x = y)
def cmp0 (f : Nat) : Int32 → Bool := match f with
  | 0 => fun x => decide (x < 0)
  | 1 => fun x => decide (x = 0)
  | 2 => fun x => decide (x ≤ 0)
  | 3 => fun x => decide (0 < x)
  | 4 => fun x => decide (0 ≤ x)
  | _ => fun x => decide (¬ x = 0)
/-- the comparison that holds where f doesn't -/
def cmpn (f : Nat) : Nat := match f with
  | 0 => 4
  | 1 => 5
  | 2 => 3
  | 3 => 2
  | 4 => 0
  | _ => 1
theorem y_cmp_ok {f : Nat} {E : yE} {s t : Nat × Int} {ρ : List Int} {τ : List Nat} {x y : Int32} (hE : gE E ρ) (hx : yv ρ τ (.inl s) (.inl x)) (hy : yv ρ τ (.inl t) (.inl y)) (h : cmpf f x y = true) : ∃ E', y_cmp f E s t = some E' ∧ gE E' ρ := by
  obtain ⟨zx, x1, x2⟩ := hx
  obtain ⟨zy, y1, y2⟩ := hy
  unfold cmpf at h
  unfold y_cmp
  split at h
  · have h := Int32.lt_iff_toInt_lt.mp (of_decide_eq_true h)
    exact y_le_ok (s := (s.1, s.2 + 1)) hE x1 y1 (by show zx + (s.2 + 1) ≤ _; omega)
  · have h := congrArg Int32.toInt (of_decide_eq_true h)
    obtain ⟨E1, e1, g1⟩ := y_le_ok (s := s) (t := t) hE x1 y1 (by omega)
    rw [e1]
    exact y_le_ok (s := t) (t := s) g1 y1 x1 (by omega)
  · have h := Int32.le_iff_toInt_le.mp (of_decide_eq_true h)
    exact y_le_ok hE x1 y1 (by omega)
  · have h := Int32.lt_iff_toInt_lt.mp (of_decide_eq_true h)
    exact y_le_ok (s := (t.1, t.2 + 1)) hE y1 x1 (by show zy + (t.2 + 1) ≤ _; omega)
  · have h := Int32.le_iff_toInt_le.mp (of_decide_eq_true h)
    exact y_le_ok hE y1 x1 (by omega)
  · have h : ¬ x = y := of_decide_eq_true h
    rename_i h0 h1 h2 h3 h4
    have hn : ¬ x.toInt = y.toInt := fun e => h (Int32.toInt_inj.mp e)
    exact y_ne_ok hE x1 y1 (by omega)
theorem cmpn_ok {f : Nat} {x y : Int32} (h : cmpf f x y = false) : cmpf (cmpn f) x y = true := by
  unfold cmpf at h
  unfold cmpn
  split at h
  · have h := of_decide_eq_false h
    rw [Int32.lt_iff_toInt_lt] at h
    exact decide_eq_true (Int32.le_iff_toInt_le.mpr (by omega))
  · exact decide_eq_true (of_decide_eq_false h)
  · have h := of_decide_eq_false h
    rw [Int32.le_iff_toInt_le] at h
    exact decide_eq_true (Int32.lt_iff_toInt_lt.mpr (by omega))
  · have h := of_decide_eq_false h
    rw [Int32.lt_iff_toInt_lt] at h
    exact decide_eq_true (Int32.le_iff_toInt_le.mpr (by omega))
  · have h := of_decide_eq_false h
    rw [Int32.le_iff_toInt_le] at h
    exact decide_eq_true (Int32.lt_iff_toInt_lt.mpr (by omega))
  · rename_i h0 h1 h2 h3 h4
    exact decide_eq_true (Decidable.not_not.mp (of_decide_eq_false h))
theorem cmp0_eq (f : Nat) (x : Int32) : cmp0 f x = cmpf f x 0 := by
  unfold cmp0 cmpf
  split <;> rfl
theorem y_cml_ok {f : Nat} {E : yE} {s t : Nat × Int} {ρ : List Int} {τ : List Nat} {x y : Int32} (hE : gE E ρ) (hx : yv ρ τ (.inl s) (.inl x)) (hy : yv ρ τ (.inl t) (.inl y)) (h : cmpf f x y = true) : ∃ E' ∈ y_cml f E s t, gE E' ρ := by
  unfold y_cml
  split
  · obtain ⟨zx, x1, x2⟩ := hx
    obtain ⟨zy, y1, y2⟩ := hy
    have h : ¬ x = y := of_decide_eq_true h
    have hn : ¬ x.toInt = y.toInt := fun e => h (Int32.toInt_inj.mp e)
    by_cases hl : x.toInt < y.toInt
    · obtain ⟨E1, e1, g1⟩ := y_le_ok (s := (s.1, s.2 + 1)) (t := t) hE x1 y1 (by show zx + (s.2 + 1) ≤ _; omega)
      exact ⟨E1, List.mem_append_left _ (by rw [e1]; exact List.mem_cons_self), g1⟩
    · obtain ⟨E1, e1, g1⟩ := y_le_ok (s := (t.1, t.2 + 1)) (t := s) hE y1 x1 (by show zy + (t.2 + 1) ≤ _; omega)
      exact ⟨E1, List.mem_append_right _ (by rw [e1]; exact List.mem_cons_self), g1⟩
  · obtain ⟨E1, e1, g1⟩ := y_cmp_ok hE hx hy h
    exact ⟨E1, by rw [e1]; exact List.mem_cons_self, g1⟩

/-! Symbolic runs: an int is a variable and an offset, variables have bounds; a reference is a variable with a region; bindings tell what fields hold. -/
abbrev yV : Type := (Nat × Int) ⊕ (Unit ⊕ Option Nat)
abbrev yE : Type := List (Int × Int)
abbrev yB : Type := List ((Nat × Nat) × yV)
abbrev yL : Type := List (Nat × yV)
abbrev yF : Type := Nat × Nat × yL × List yV
abbrev yS : Type := yE × List Nat × yB × List yF
/-- a slot's type: an int within bounds, a long, a reference into a region (null or not) -/
abbrev yT : Type := (Int × Int) ⊕ (Unit ⊕ (Nat × Bool))
/-- regions: kind, length, how many slots are typed, the slots' types -/
abbrev yR : Type := (Nat → Nat) × (Nat → Nat) × (Nat → Nat) × (Nat → Nat → yT)
def tyOk (rg : Nat → Nat) (n : Nat) (t : yT) (x : Int32) (p : Option Nat) : Prop := match t with
  | .inl b => b.1 ≤ x.toInt ∧ x.toInt ≤ b.2
  | .inr (.inl _) => True
  | .inr (.inr q) => match p with
    | none => q.2 = true
    | some a => a < n ∧ rg a = q.1
/-- a slot's number; all slots of an array have one -/
def ysi (R : yR) (r k : Nat) : Nat := bif Nat.ble 14 (R.1 r) then 0 else k
def ysl (R : yR) (r k : Nat) : yT := R.2.2.2 r (ysi R r k)
/-- the memory is as its regions say -/
def hT (R : yR) (rg : Nat → Nat) (M : aM) : Prop := a_n M < aSB ∧ ∀ a, a < a_n M → a_K M a = R.1 (rg a) ∧ a_N M a = R.2.1 (rg a) ∧ ∀ k, k < R.2.2.1 (rg a) → tyOk rg (a_n M) (ysl R (rg a) k) (a_I M a k) (a_P M a k)
/-- what a run may have changed since M0 -/
def Fr (R : yR) (ms : Nat → Nat → Bool) (rg : Nat → Nat) (M0 M : aM) : Prop := (a_n M = a_n M0 ∧ a_z M = a_z M0 ∧ a_c M = a_c M0) ∧ a_K M = a_K M0 ∧ a_N M = a_N M0 ∧ ∀ a k, ms (rg a) (ysi R (rg a) k) = false → a_I M a k = a_I M0 a k ∧ a_J M a k = a_J M0 a k ∧ a_P M a k = a_P M0 a k
def yv (ρ : List Int) (τ : List Nat) (s : yV) (v : aV) : Prop := match s, v with
  | .inl q, .inl x => ∃ z, ρ[q.1]? = some z ∧ x.toInt = z + q.2
  | .inr (.inl _), .inr (.inl _) => True
  | .inr (.inr none), .inr (.inr none) => True
  | .inr (.inr (some j)), .inr (.inr (some a)) => τ[j]? = some a
  | _, _ => False
/-- what a binding says of a slot -/
def bOk (ρ : List Int) (τ : List Nat) (s : yV) (x : Int32) (p : Option Nat) : Prop := match s with
  | .inl q => ∃ z, ρ[q.1]? = some z ∧ x.toInt = z + q.2
  | .inr (.inl _) => True
  | .inr (.inr none) => p = none
  | .inr (.inr (some j)) => ∃ a, τ[j]? = some a ∧ p = some a
def gE (E : yE) (ρ : List Int) : Prop := E.length = ρ.length ∧ ∀ (j : Nat) (b : Int × Int) (z : Int), E[j]? = some b → ρ[j]? = some z → b.1 ≤ z ∧ z ≤ b.2
def gG (rg : Nat → Nat) (n : Nat) (G τ : List Nat) : Prop := G.length = τ.length ∧ ∀ (j r a : Nat), G[j]? = some r → τ[j]? = some a → (r < aSB ∧ a < n ∧ rg a = r) ∨ (aSB ≤ r ∧ a = r)
def gB (B : yB) (ρ : List Int) (τ : List Nat) (M : aM) : Prop := ∀ q ∈ B, ∃ a, τ[q.1.1]? = some a ∧ bOk ρ τ q.2 (a_I M a q.1.2) (a_P M a q.1.2)
def ylk (i : Nat) : yL → Option yV
  | [] => none
  | q :: t => bif Nat.beq q.1 i then some q.2 else ylk i t
def gL (l : yL) (ρ : List Int) (τ : List Nat) (lo : aL) : Prop := ∀ i s, ylk i l = some s → ∃ v, lk i lo = some v ∧ yv ρ τ s v
def gK (ρ : List Int) (τ : List Nat) : List yV → List aV → Prop
  | [], [] => True
  | s :: t, v :: w => yv ρ τ s v ∧ gK ρ τ t w
  | _, _ => False
def gF (ρ : List Int) (τ : List Nat) : List yF → List aFr → Prop
  | [], [] => True
  | f :: t, g :: w => (f.1 = g.1 ∧ f.2.1 = g.2.1 ∧ gL f.2.2.1 ρ τ g.2.2.1 ∧ gK ρ τ f.2.2.2 g.2.2.2) ∧ gF ρ τ t w
  | _, _ => False
theorem app_at {α : Type} {l l2 : List α} {j : Nat} {z : α} (h : l[j]? = some z) : (l ++ l2)[j]? = some z := by
  have := (List.getElem?_eq_some_iff.mp h).1
  rw [List.getElem?_append_left this]
  exact h
theorem yv_mono {ρ : List Int} {τ : List Nat} {s : yV} {v : aV} (ρ2 : List Int) (τ2 : List Nat) (h : yv ρ τ s v) : yv (ρ ++ ρ2) (τ ++ τ2) s v := by
  rcases s with q | u | r <;> rcases v with x | y | p
  · obtain ⟨z, h1, h2⟩ := h
    exact ⟨z, app_at h1, h2⟩
  · exact h
  · exact h
  · exact h
  · trivial
  · exact h
  · rcases r with _ | j <;> exact h
  · rcases r with _ | j <;> exact h
  · rcases r with _ | j <;> rcases p with _ | a
    · trivial
    · exact h
    · exact h
    · exact app_at h
theorem bOk_mono {ρ : List Int} {τ : List Nat} {s : yV} {x : Int32} {p : Option Nat} (ρ2 : List Int) (τ2 : List Nat) (h : bOk ρ τ s x p) : bOk (ρ ++ ρ2) (τ ++ τ2) s x p := by
  rcases s with q | u | _ | j
  · obtain ⟨z, h1, h2⟩ := h
    exact ⟨z, app_at h1, h2⟩
  · trivial
  · exact h
  · obtain ⟨a, h1, h2⟩ := h
    exact ⟨a, app_at h1, h2⟩
theorem gB_mono {B : yB} {ρ : List Int} {τ : List Nat} {M : aM} (ρ2 : List Int) (τ2 : List Nat) (h : gB B ρ τ M) : gB B (ρ ++ ρ2) (τ ++ τ2) M := fun q hq => by
  obtain ⟨a, h1, h2⟩ := h q hq
  exact ⟨a, app_at h1, bOk_mono ρ2 τ2 h2⟩
theorem gL_mono {l : yL} {ρ : List Int} {τ : List Nat} {lo : aL} (ρ2 : List Int) (τ2 : List Nat) (h : gL l ρ τ lo) : gL l (ρ ++ ρ2) (τ ++ τ2) lo := fun i s hs => by
  obtain ⟨v, h1, h2⟩ := h i s hs
  exact ⟨v, h1, yv_mono ρ2 τ2 h2⟩
theorem gK_mono {ρ : List Int} {τ : List Nat} (ρ2 : List Int) (τ2 : List Nat) : ∀ {st : List yV} {sc : List aV}, gK ρ τ st sc → gK (ρ ++ ρ2) (τ ++ τ2) st sc
  | [], [], _ => trivial
  | _ :: _, _ :: _, h => ⟨yv_mono ρ2 τ2 h.1, gK_mono ρ2 τ2 h.2⟩
  | [], _ :: _, h => h
  | _ :: _, [], h => h
theorem gF_mono {ρ : List Int} {τ : List Nat} (ρ2 : List Int) (τ2 : List Nat) : ∀ {fs : List yF} {gs : List aFr}, gF ρ τ fs gs → gF (ρ ++ ρ2) (τ ++ τ2) fs gs
  | [], [], _ => trivial
  | _ :: _, _ :: _, h => ⟨⟨h.1.1, h.1.2.1, gL_mono ρ2 τ2 h.1.2.2.1, gK_mono ρ2 τ2 h.1.2.2.2⟩, gF_mono ρ2 τ2 h.2⟩
  | [], _ :: _, h => h
  | _ :: _, [], h => h
/-- a symbolic state, and the machine's -/
def gam (R : yR) (ms : Nat → Nat → Bool) (rg : Nat → Nat) (M0 : aM) (D : Nat) (S : yS) (ρ : List Int) (τ : List Nat) (X : aSt) : Prop :=
  (gE S.1 ρ ∧ gG rg (a_n X.2.2.2.2.2.2) S.2.1 τ ∧ ρ[0]? = some 0) ∧ gB S.2.2.1 ρ τ X.2.2.2.2.2.2 ∧ (hT R rg X.2.2.2.2.2.2 ∧ Fr R ms rg M0 X.2.2.2.2.2.2) ∧ D ≤ X.1 + X.2.1.length ∧ gF ρ τ S.2.2.2 ((X.2.2.1, X.2.2.2.1, X.2.2.2.2.1, X.2.2.2.2.2.1) :: X.2.1)
/-- one step of the machine comes to one of these states -/
def ySt (cd : Nat → Nat → Option aI) (R : yR) (ms : Nat → Nat → Bool) (rg : Nat → Nat) (M0 : aM) (D : Nat) (ρ : List Int) (τ : List Nat) (X : aSt) (L : List yS) : Prop := ∃ X', stpS cd X = some X' ∧ ∃ S' ∈ L, ∃ ρ2 τ2, gam R ms rg M0 D S' (ρ ++ ρ2) (τ ++ τ2) X'
/-! ints -/
def yb (E : yE) (s : Nat × Int) : Option (Int × Int) := match E[s.1]? with
  | some b => some (b.1 + s.2, b.2 + s.2)
  | none => none
theorem yb_ok {E : yE} {ρ : List Int} {τ : List Nat} {s : Nat × Int} {x : Int32} {l h : Int} (hb : yb E s = some (l, h)) (hE : gE E ρ) (hv : yv ρ τ (.inl s) (.inl x)) : l ≤ x.toInt ∧ x.toInt ≤ h := by
  unfold yb at hb
  obtain ⟨z, h1, h2⟩ := hv
  cases he : E[s.1]? with
  | none => rw [he] at hb; cases hb
  | some b =>
    rw [he] at hb
    cases hb
    have := hE.2 _ _ _ he h1
    omega
/-- a new variable -/
theorem gE_new {E : yE} {ρ : List Int} {l h z : Int} (hE : gE E ρ) (h1 : l ≤ z) (h2 : z ≤ h) : gE (E ++ [(l, h)]) (ρ ++ [z]) := by
  refine ⟨by simp [hE.1], fun j b y e1 e2 => ?_⟩
  by_cases hj : j < E.length
  · rw [List.getElem?_append_left hj] at e1
    rw [List.getElem?_append_left (hE.1 ▸ hj)] at e2
    exact hE.2 j b y e1 e2
  · have hj' : j = E.length := by
      have := (List.getElem?_eq_some_iff.mp e1).1
      simp at this
      omega
    subst hj'
    simp at e1
    rw [hE.1] at e2
    simp at e2
    subst e1
    subst e2
    exact ⟨h1, h2⟩
theorem new_at {E : yE} {ρ : List Int} {z : Int} (hE : gE E ρ) : (ρ ++ [z])[E.length]? = some z := by rw [hE.1]; simp
abbrev i32a : Int := -2147483648
abbrev i32b : Int := 2147483647
theorem i32_bd (x : Int32) : i32a ≤ x.toInt ∧ x.toInt ≤ i32b := by
  have h1 := Int32.le_toInt x
  have h2 := Int32.toInt_lt x
  exact ⟨h1, by show x.toInt ≤ 2147483647; omega⟩
/-- the result of an int operation: the variables' new bounds, and the value -/
def yI (E' : yE) (s : Nat × Int) (ρ : List Int) (x : Int32) : Prop := ∃ ρ2, gE E' (ρ ++ ρ2) ∧ ∃ z, (ρ ++ ρ2)[s.1]? = some z ∧ x.toInt = z + s.2
/-- a value within bounds that may be too wide: then nothing is known -/
def yclip (l h : Int) : Int × Int := if i32a ≤ l ∧ h ≤ i32b then (l, h) else (i32a, i32b)
theorem yI_new {E : yE} {ρ : List Int} {x : Int32} {l h : Int} (hE : gE E ρ) (h1 : l ≤ x.toInt) (h2 : x.toInt ≤ h) : yI (E ++ [(l, h)]) (E.length, 0) ρ x := ⟨[x.toInt], gE_new hE h1 h2, x.toInt, new_at hE, by simp⟩
theorem yI_same {E : yE} {ρ : List Int} {s : Nat × Int} {x : Int32} {z : Int} (hE : gE E ρ) (h1 : ρ[s.1]? = some z) (h2 : x.toInt = z + s.2) : yI E s ρ x := ⟨[], by simpa using hE, z, by simpa using h1, h2⟩

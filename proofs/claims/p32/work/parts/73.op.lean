/-! The instructions one by one. -/
def ybl (B : yB) (i k : Nat) : Option yV := match B with
  | [] => none
  | q :: t => bif Nat.beq q.1.1 i && Nat.beq q.1.2 k then some q.2 else ybl t i k
theorem ybl_mem {i k : Nat} {s : yV} : ∀ {B : yB}, ybl B i k = some s → ((i, k), s) ∈ B
  | [], h => by cases h
  | q :: t, h => by
    unfold ybl at h
    cases hb : (Nat.beq q.1.1 i && Nat.beq q.1.2 k) with
    | true =>
      rw [hb] at h
      obtain ⟨h1, h2⟩ := (Bool.and_eq_true _ _).mp hb
      have hs : q.2 = s := Option.some.inj h
      rw [← nbT h1, ← nbT h2, ← hs]
      exact List.mem_cons_self
    | false =>
      rw [hb] at h
      exact List.mem_cons_of_mem _ (ybl_mem (B := t) h)
/-- bindings that a write to slot k of region r leaves -/
def ykill (G : List Nat) (r k : Nat) (B : yB) : yB := B.filter (fun q => !(Nat.beq q.1.2 k && (G[q.1.1]?).any (fun r' => Nat.beq r' r)))
/-- bindings that a write to any slot of region r leaves -/
def ykilA (G : List Nat) (r : Nat) (B : yB) : yB := B.filter (fun q => !((G[q.1.1]?).any (fun r' => Nat.beq r' r)))
/-- the region of a reference, if it is an object's of kind ci -/
def yrg (R : yR) (G : List Nat) (i ci : Nat) : Option Nat := match G[i]? with
  | some r => bif Nat.blt r aSB && Nat.beq (R.1 r) ci then some r else none
  | none => none
theorem yrg_ok {R : yR} {G : List Nat} {i ci r : Nat} {rg : Nat → Nat} {τ : List Nat} {M : aM} {a : Nat} (h : yrg R G i ci = some r) (hT' : hT R rg M) (hG : gG rg (a_n M) G τ) (ha : τ[i]? = some a) : G[i]? = some r ∧ r < aSB ∧ a < a_n M ∧ rg a = r ∧ a_K M a = ci ∧ Nat.blt a (a_n M) = true ∧ Nat.beq (a_K M a) ci = true := by
  unfold yrg at h
  cases hg : G[i]? with
  | none => rw [hg] at h; cases h
  | some r' =>
    rw [hg] at h
    simp only at h
    obtain ⟨h1, h2⟩ := bifE h
    obtain ⟨h3, h4⟩ := (Bool.and_eq_true _ _).mp h1
    subst h2
    have hr : r < aSB := blt_lt h3
    rcases hG.2 i r a hg ha with ⟨_, q1, q2⟩ | ⟨q1, _⟩
    · have hk : a_K M a = ci := by rw [(hT'.2 a q1).1, q2]; exact nbT h4
      refine ⟨rfl, hr, q1, q2, hk, ?_, by rw [hk]; exact Nat.beq_refl ci⟩
      exact Nat.ble_eq.mpr q1
    · omega
def ybin (lo : yL) (G : List Nat) (B : yB) (nx : Nat) (s : List yV) (r : Option (yE × (Nat × Int))) : Option (List yP) := match r with
  | some q => some [(q.1, G, B, nx, lo, .inl q.2 :: s)]
  | none => none
def ybr (G : List Nat) (B : yB) (lo : yL) (s : List yV) (E1 E2 : List yE) (t nx : Nat) : List yP := E1.map (fun E => (E, G, B, t, lo, s)) ++ E2.map (fun E => (E, G, B, nx, lo, s))
/-- within bounds -/
def ywi (E : yE) (q : Nat × Int) (l h : Int) : Bool := match yb E q with
  | some b => decide (l ≤ b.1) && decide (b.2 ≤ h)
  | none => false
theorem ywi_ok {E : yE} {ρ : List Int} {τ : List Nat} {q : Nat × Int} {x : Int32} {l h : Int} (hb : ywi E q l h = true) (hE : gE E ρ) (hv : yv ρ τ (.inl q) (.inl x)) : l ≤ x.toInt ∧ x.toInt ≤ h := by
  unfold ywi at hb
  cases he : yb E q with
  | none => rw [he] at hb; cases hb
  | some b =>
    rw [he] at hb
    obtain ⟨h1, h2⟩ := (Bool.and_eq_true _ _).mp hb
    have h1 := of_decide_eq_true h1
    have h2 := of_decide_eq_true h2
    have := yb_ok (l := b.1) (h := b.2) he hE hv
    omega
/-- a value that is known -/
def ysg (E : yE) (q : Nat × Int) : Option Nat := match yb E q with
  | some b => if b.1 = b.2 ∧ 0 ≤ b.1 then some b.1.toNat else none
  | none => none
theorem ysg_ok {E : yE} {ρ : List Int} {τ : List Nat} {q : Nat × Int} {x : Int32} {c : Nat} (hb : ysg E q = some c) (hE : gE E ρ) (hv : yv ρ τ (.inl q) (.inl x)) : x.toNatClampNeg = c := by
  unfold ysg at hb
  cases he : yb E q with
  | none => rw [he] at hb; cases hb
  | some b =>
    rw [he] at hb
    simp only at hb
    split at hb
    · rename_i h0
      cases hb
      have := yb_ok (l := b.1) (h := b.2) he hE hv
      show x.toInt.toNat = _
      rw [show x.toInt = b.1 by omega]
    · cases hb
theorem inb_ok {x : Int32} {n : Nat} (h1 : 0 ≤ x.toInt) (h2 : x.toInt ≤ (n : Int) - 1) : inb x n = true := by
  unfold inb
  have h3 : ¬ x < 0 := fun h => by
    rw [Int32.lt_iff_toInt_lt] at h
    have : (0 : Int32).toInt = 0 := rfl
    omega
  rw [decide_eq_false h3]
  show Nat.ble (x.toNatClampNeg + 1) n = true
  apply Nat.ble_eq.mpr
  show x.toInt.toNat + 1 ≤ n
  omega
def yop1 (R : yR) (ms : Nat → Nat → Bool) (o : aO) (E : yE) (G : List Nat) (B : yB) (lo : yL) (st : List yV) : Option (List yP) := match o with
  | (0, nx, _, _, _, x) => some [(E, G, B, nx, lo, .inl (0, x.toInt) :: st)]
  | (1, nx, i, _, _, _) => match ylk i lo with
    | some (.inl q) => some [(E, G, B, nx, lo, .inl q :: st)]
    | _ => none
  | (2, nx, i, _, _, _) => match ylk i lo with
    | some (.inr (.inr (some j))) => some [(E, G, B, nx, lo, .inr (.inr (some j)) :: st)]
    | _ => none
  | (3, nx, i, _, _, _) => match st with
    | .inl q :: t => bif yln lo then some [(E, G, B, nx, (i, .inl q) :: yrm i lo, t)] else none
    | _ => none
  | (4, nx, i, _, _, _) => match st with
    | .inr (.inr (some j)) :: t => bif yln lo then some [(E, G, B, nx, (i, .inr (.inr (some j))) :: yrm i lo, t)] else none
    | _ => none
  | (5, nx, i, _, _, x) => match ylk i lo with
    | some (.inl q) => match y_bin 0 E q (0, x.toInt) with
      | some r => bif yln lo then some [(r.1, G, B, nx, (i, .inl r.2) :: yrm i lo, st)] else none
      | none => none
    | _ => none
  | (6, nx, f, _, _, _) => match st with
    | .inl t :: .inl s :: w => ybin lo G B nx w (y_bin f E s t)
    | _ => none
  | (7, nx, f, _, _, _) => match st with
    | .inl t :: .inl s :: w => ybin lo G B nx w (y_div f E s t)
    | _ => none
  | (8, nx, f, _, _, _) => match st with
    | .inl s :: w => ybin lo G B nx w (y_un f E s)
    | _ => none
  | (9, t, _, _, _, _) => some [(E, G, B, t, lo, st)]
  | (10, t, nx, f, _, _) => match st with
    | .inl s :: w => some (ybr G B lo w (y_cml f E s (0, 0)) (y_cml (cmpn f) E s (0, 0)) t nx)
    | _ => none
  | (11, t, nx, f, _, _) => match st with
    | .inl y :: .inl s :: w => some (ybr G B lo w (y_cml f E s y) (y_cml (cmpn f) E s y) t nx)
    | _ => none
  | (12, nx, ci, k, t, _) => match st with
    | .inr (.inr (some i)) :: w => match yrg R G i ci with
      | none => none
      | some r => bif Nat.blt k (R.2.2.1 r) then (match t with
        | 0 => match ybl B i k with
          | some (.inl q) => some [(E, G, B, nx, lo, .inl q :: w)]
          | _ => match ysl R r k with
            | .inl b => some [(E ++ [b], G, ((i, k), .inl (E.length, 0)) :: B, nx, lo, .inl (E.length, 0) :: w)]
            | _ => none
        | 1 => none
        | _ => match ybl B i k with
          | some (.inr (.inr x)) => some [(E, G, B, nx, lo, .inr (.inr x) :: w)]
          | _ => match ysl R r k with
            | .inr (.inr q) => bif Nat.blt q.1 aSB then some ((E, G ++ [q.1], ((i, k), .inr (.inr (some G.length))) :: B, nx, lo, .inr (.inr (some G.length)) :: w) :: (bif q.2 then [(E, G, ((i, k), .inr (.inr none)) :: B, nx, lo, .inr (.inr none) :: w)] else [])) else none
            | _ => none) else none
    | _ => none
  | (13, nx, ci, k, b, _) => match st with
    | .inl q :: .inr (.inr (some i)) :: w => match yrg R G i ci with
      | none => none
      | some r => match ysl R r k with
        | .inl bd => bif (Nat.blt k (R.2.2.1 r) && ms r (ysi R r k)) && (ywi E q bd.1 bd.2 && (!nB b || ywi E q 0 1)) then some [(E, G, ((i, k), .inl q) :: ykill G r k B, nx, lo, w)] else none
        | _ => none
    | _ => none
  | (14, nx, ci, k, _, _) => match st with
    | .inr (.inr v) :: .inr (.inr (some i)) :: w => match yrg R G i ci with
      | none => none
      | some r => match ysl R r k with
        | .inr (.inr q) => bif (Nat.blt k (R.2.2.1 r) && ms r (ysi R r k)) && (match v with
            | none => q.2
            | some j => (G[j]?).any (fun r' => Nat.beq r' q.1) && Nat.blt q.1 aSB) then some [(E, G, ((i, k), .inr (.inr v)) :: ykill G r k B, nx, lo, w)] else none
        | _ => none
    | _ => none
  | (15, nx, kd, _, _, _) => match st with
    | .inl q :: .inr (.inr (some i)) :: w => match yrg R G i kd with
      | none => none
      | some r => bif (Nat.ble (R.2.2.1 r) (R.2.1 r) && Nat.ble 14 kd) && ywi E q 0 ((R.2.2.1 r : Int) - 1) then (match (ysg E q).bind (fun c => ybl B i c) with
          | some (.inl v) => some [(E, G, B, nx, lo, .inl v :: w)]
          | _ => match ysl R r 0 with
            | .inl b => match ysg E q with
              | some c => some [(E ++ [b], G, ((i, c), .inl (E.length, 0)) :: B, nx, lo, .inl (E.length, 0) :: w)]
              | none => some [(E ++ [b], G, B, nx, lo, .inl (E.length, 0) :: w)]
            | _ => none) else none
    | _ => none
  | (16, nx, kd, g, _, _) => match st with
    | .inl v :: .inl q :: .inr (.inr (some i)) :: w => match yrg R G i kd with
      | none => none
      | some r => match ysl R r 0 with
        | .inl bd => bif (Nat.ble (R.2.1 r) (R.2.2.1 r) && Nat.ble 14 kd) && (ywi E q 0 ((R.2.1 r : Int) - 1) && ((bif Nat.beq g 0 then ywi E v bd.1 bd.2 else decide (bd.1 ≤ i32a ∧ i32b ≤ bd.2)) && ms r 0)) then (match ysg E q with
            | some c => some [(E, G, (bif Nat.beq g 0 then [((i, c), .inl v)] else []) ++ ykill G r c B, nx, lo, w)]
            | none => some [(E, G, ykilA G r B, nx, lo, w)]) else none
        | _ => none
    | _ => none
  | (17, nx, kd, _, _, _) => match st with
    | .inl q :: .inr (.inr (some i)) :: w => match yrg R G i kd with
      | none => none
      | some r => bif (Nat.ble (R.2.2.1 r) (R.2.1 r) && Nat.ble 14 kd) && ywi E q 0 ((R.2.2.1 r : Int) - 1) then (match (ysg E q).bind (fun c => ybl B i c) with
          | some (.inr (.inr (some v))) => some [(E, G, B, nx, lo, .inr (.inr (some v)) :: w)]
          | _ => match ysl R r 0 with
            | .inr (.inr p) => bif p.2 || !Nat.blt p.1 aSB then none else (match ysg E q with
              | some c => some [(E, G ++ [p.1], ((i, c), .inr (.inr (some G.length))) :: B, nx, lo, .inr (.inr (some G.length)) :: w)]
              | none => some [(E, G ++ [p.1], B, nx, lo, .inr (.inr (some G.length)) :: w)])
            | _ => none) else none
    | _ => none
  | (18, nx, _, _, _, _) => match st with
    | .inr (.inr (some i)) :: w => match G[i]? with
      | some r => bif Nat.blt r aSB && (Nat.ble 14 (R.1 r) && Nat.ble (R.1 r) 19) && Nat.blt (R.2.1 r) 1000000 then some [(E, G, B, nx, lo, .inl (0, (R.2.1 r : Int)) :: w)] else none
      | none => none
    | _ => none
  | (19, nx, _, _, _, _) => match st with
    | v :: w => bif yni v then some [(E, G, B, nx, lo, v :: v :: w)] else none
    | _ => none
  | (20, nx, _, _, _, _) => match st with
    | v :: w => bif yni v then some [(E, G, B, nx, lo, w)] else none
    | _ => none
  | (21, nx, _, _, _, _) => match st with
    | v :: u :: w => bif yni v && yni u then some [(E, G, B, nx, lo, v :: u :: v :: u :: w)] else none
    | _ => none
  | (22, t, nx, _, _, _) => match st with
    | .inr (.inr none) :: w => some [(E, G, B, t, lo, w)]
    | .inr (.inr (some _)) :: w => some [(E, G, B, nx, lo, w)]
    | _ => none
  | (23, nx, id, _, _, _) => some [(E, G ++ [aSB + id], B, nx, lo, .inr (.inr (some G.length)) :: st)]
  | _ => none

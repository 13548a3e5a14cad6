/-! spans of the reference, functional: printed by wip/gen/spans.py -/
abbrev spA : Type := (Nat → Int32) × (Nat → Int32)
def upF (f : Nat → Int32) (j : Nat) (v : Int32) (i : Nat) : Int32 := if i = j then v else f i
/-- a span cut; whether it changed -/
def spC (j : Nat) (l h : Int32) (a : spA) : spA × Bool := if l.toInt ≤ (a.1 j).toInt ∧ (a.2 j).toInt ≤ h.toInt then (a, false) else ((upF a.1 j (if (a.1 j).toInt < l.toInt then l else a.1 j), upF a.2 j (if h.toInt < (a.2 j).toInt then h else a.2 j)), true)
def spt1 (k : Int32) (i : Nat) (a : spA) : spA × Bool := spC i (binf 5 (a.1 (i - 1) + a.1 (i + 1) - k + 1) 1) (binf 5 (a.2 (i - 1) + a.2 (i + 1) + k) 1) a
def spt2 (k : Int32) (i : Nat) (a : spA) : spA × Bool := spC (i - 1) (2 * a.1 i - a.2 (i + 1) - k) (2 * a.2 i - a.1 (i + 1) + k) a
def spt3 (k : Int32) (i : Nat) (a : spA) : spA × Bool := spC (i + 1) (2 * a.1 i - a.2 (i - 1) - k) (2 * a.2 i - a.1 (i - 1) + k) a
def spS (k : Int32) (i : Nat) (a : spA) : spA := (spt3 k i (spt2 k i (spt1 k i a).1).1).1
def spH (k : Int32) (i : Nat) (a : spA) : Bool := (spt3 k i (spt2 k i (spt1 k i a).1).1).2 || ((spt2 k i (spt1 k i a).1).2 || (spt1 k i a).2)
def spE (a : spA) (j : Nat) : Bool := decide ((a.2 j).toInt < (a.1 j).toInt)
def spB (i : Nat) (a : spA) : Bool := spE a i || (spE a (i - 1) || spE a (i + 1))
/-- one sweep: the spans, whether one changed; whether none is empty -/
def swp (k : Int32) : Nat → Nat → Bool → spA → (spA × Bool) × Bool
  | 0, _, m, a => ((a, m), true)
  | f + 1, i, m, a => bif spB i (spS k i a) then ((spS k i a, spH k i a || m), false) else swp k f (i + 1) (spH k i a || m) (spS k i a)
def spn (k : Int32) (n : Nat) : Nat → spA → spA × Bool
  | 0, a => (a, true)
  | F + 1, a => bif (swp k (n - 2) 1 false a).2 then (bif (swp k (n - 2) 1 false a).1.2 then spn k n F (swp k (n - 2) 1 false a).1.1 else ((swp k (n - 2) 1 false a).1.1, true)) else ((swp k (n - 2) 1 false a).1.1, false)
/-- the sum of all widths -/
def spW (a : spA) (j : Nat) : Nat := ((a.2 j).toInt - (a.1 j).toInt + 4294967296).toNat
def mu : Nat → spA → Nat
  | 0, _ => 0
  | n + 1, a => mu n a + spW a n
theorem mu_c : ∀ {n : Nat} {a b : spA}, (∀ j, j < n → spW a j ≤ spW b j) → mu n a ≤ mu n b
  | 0, _, _, _ => Nat.le_refl _
  | n + 1, a, b, h => by
    have h1 := mu_c (n := n) (a := a) (b := b) (fun j hj => h j (by omega))
    have h2 := h n (by omega)
    show mu n a + spW a n ≤ mu n b + spW b n
    omega
theorem mu_s : ∀ {n : Nat} {a b : spA}, (∀ j, j < n → spW a j ≤ spW b j) → (∃ j, j < n ∧ spW a j < spW b j) → mu n a < mu n b
  | 0, _, _, _, ⟨j, hj, _⟩ => absurd hj (Nat.not_lt_zero j)
  | n + 1, a, b, h, ⟨j, hj, hs⟩ => by
    have h2 := h n (by omega)
    show mu n a + spW a n < mu n b + spW b n
    by_cases e : j = n
    · subst e
      have h1 := mu_c (n := j) (a := a) (b := b) (fun i hi => h i (by omega))
      omega
    · have h1 := mu_s (n := n) (a := a) (b := b) (fun i hi => h i (by omega)) ⟨j, by omega, hs⟩
      omega
theorem spC_w {j : Nat} {l h : Int32} {a : spA} : (∀ i, spW (spC j l h a).1 i ≤ spW a i) ∧ ((spC j l h a).2 = true → spW (spC j l h a).1 j < spW a j) := by
  unfold spC
  by_cases c : l.toInt ≤ (a.1 j).toInt ∧ (a.2 j).toInt ≤ h.toInt
  · rw [if_pos c]; exact ⟨fun i => Nat.le_refl _, fun e => by cases e⟩
  · rw [if_neg c]
    have b1 := Int32.le_toInt (a.1 j)
    have b2 := Int32.toInt_lt (a.1 j)
    have b3 := Int32.le_toInt (a.2 j)
    have b4 := Int32.toInt_lt (a.2 j)
    have b5 := Int32.le_toInt l
    have b6 := Int32.toInt_lt l
    have b7 := Int32.le_toInt h
    have b8 := Int32.toInt_lt h
    have key : spW (upF a.1 j (if (a.1 j).toInt < l.toInt then l else a.1 j), upF a.2 j (if h.toInt < (a.2 j).toInt then h else a.2 j)) j < spW a j := by
      show ((if j = j then (if h.toInt < (a.2 j).toInt then h else a.2 j) else _).toInt - (if j = j then (if (a.1 j).toInt < l.toInt then l else a.1 j) else _).toInt + 4294967296).toNat < ((a.2 j).toInt - (a.1 j).toInt + 4294967296).toNat
      rw [if_pos rfl, if_pos rfl]
      split <;> split <;> omega
    refine ⟨fun i => ?_, fun _ => key⟩
    by_cases e : i = j
    · subst e; exact Nat.le_of_lt key
    · show ((if i = j then _ else a.2 i).toInt - (if i = j then _ else a.1 i).toInt + 4294967296).toNat ≤ _
      rw [if_neg e, if_neg e]
      exact Nat.le_refl _
theorem spC_m {n j : Nat} {l h : Int32} {a : spA} (hj : j < n) : mu n (spC j l h a).1 ≤ mu n a ∧ ((spC j l h a).2 = true → mu n (spC j l h a).1 < mu n a) := ⟨mu_c (fun i _ => spC_w.1 i), fun e => mu_s (fun i _ => spC_w.1 i) ⟨j, hj, spC_w.2 e⟩⟩
theorem spS_m {n i : Nat} {k : Int32} {a : spA} (h1 : 1 ≤ i) (h2 : i + 1 < n) : mu n (spS k i a) ≤ mu n a ∧ (spH k i a = true → mu n (spS k i a) < mu n a) := by
  have q1 := spC_m (n := n) (j := i) (l := binf 5 (a.1 (i - 1) + a.1 (i + 1) - k + 1) 1) (h := binf 5 (a.2 (i - 1) + a.2 (i + 1) + k) 1) (a := a) (by omega)
  have q1 : mu n (spt1 k i a).1 ≤ mu n a ∧ ((spt1 k i a).2 = true → mu n (spt1 k i a).1 < mu n a) := q1
  have q2 : ∀ a, mu n (spt2 k i a).1 ≤ mu n a ∧ ((spt2 k i a).2 = true → mu n (spt2 k i a).1 < mu n a) := fun a => spC_m (by omega)
  have q3 : ∀ a, mu n (spt3 k i a).1 ≤ mu n a ∧ ((spt3 k i a).2 = true → mu n (spt3 k i a).1 < mu n a) := fun a => spC_m (by omega)
  have q2 := q2 (spt1 k i a).1
  have q3 := q3 (spt2 k i (spt1 k i a).1).1
  refine ⟨Nat.le_trans q3.1 (Nat.le_trans q2.1 q1.1), fun e => ?_⟩
  show mu n (spt3 k i (spt2 k i (spt1 k i a).1).1).1 < mu n a
  have e : ((spt3 k i (spt2 k i (spt1 k i a).1).1).2 || ((spt2 k i (spt1 k i a).1).2 || (spt1 k i a).2)) = true := e
  rcases (Bool.or_eq_true _ _).mp e with e | e
  · have := q3.2 e; omega
  · rcases (Bool.or_eq_true _ _).mp e with e | e
    · have := q2.2 e; omega
    · have := q1.2 e; omega
theorem swp_m {n : Nat} {k : Int32} : ∀ {f i : Nat} {m : Bool} {a : spA}, 1 ≤ i → i + f < n → mu n (swp k f i m a).1.1 ≤ mu n a ∧ ((swp k f i m a).1.2 = true → m = true ∨ mu n (swp k f i m a).1.1 < mu n a)
  | 0, i, m, a, _, _ => ⟨Nat.le_refl _, fun e => Or.inl e⟩
  | f + 1, i, m, a, h1, h2 => by
    have q := spS_m (n := n) (i := i) (k := k) (a := a) h1 (by omega)
    unfold swp
    cases hb : spB i (spS k i a) with
    | true =>
      refine ⟨q.1, fun e => ?_⟩
      have e : (spH k i a || m) = true := e
      rcases (Bool.or_eq_true _ _).mp e with e | e
      · exact Or.inr (q.2 e)
      · exact Or.inl e
    | false =>
      have r := swp_m (n := n) (k := k) (f := f) (i := i + 1) (m := spH k i a || m) (a := spS k i a) (by omega) (by omega)
      refine ⟨Nat.le_trans r.1 q.1, fun e => ?_⟩
      rcases r.2 e with e | e
      · rcases (Bool.or_eq_true _ _).mp e with e | e
        · exact Or.inr (Nat.lt_of_le_of_lt r.1 (q.2 e))
        · exact Or.inl e
      · exact Or.inr (Nat.lt_of_lt_of_le e q.1)
theorem spn_cv {k : Int32} {n : Nat} (hn : 2 ≤ n) : ∀ {F : Nat} {a : spA}, mu n a < F → ∀ F', F ≤ F' → spn k n F' a = spn k n F a
  | 0, a, h, _, _ => absurd h (Nat.not_lt_zero _)
  | F + 1, a, h, F', h' => by
    obtain ⟨G, rfl⟩ : ∃ G, F' = G + 1 := ⟨F' - 1, by omega⟩
    unfold spn
    cases e1 : (swp k (n - 2) 1 false a).2 with
    | false => rfl
    | true =>
      cases e2 : (swp k (n - 2) 1 false a).1.2 with
      | false => rfl
      | true =>
        have q := (swp_m (n := n) (k := k) (f := n - 2) (i := 1) (m := false) (a := a) (by omega) (by omega)).2 e2
        rcases q with q | q
        · cases q
        · exact spn_cv hn (by omega) G (by omega)
def SpM (M : aM) (a : spA) : Prop := (∀ j, a_I M 133 j = a.1 j) ∧ ∀ j, a_I M 134 j = a.2 j
def fsp (a k : Nat) : Bool := Nat.beq a 133 || Nat.beq a 134
theorem SpM_1 {M : aM} {a : spA} {j : Nat} {v w : Int32} (h : SpM M a) : SpM (s_I (s_I M 133 j v) 134 j w) (upF a.1 j v, upF a.2 j w) := by
  refine ⟨fun i => ?_, fun i => ?_⟩
  · rw [aI_nk (by omega), aI_sI]
    show _ = if i = j then v else a.1 i
    by_cases e : i = j
    · rw [if_pos ⟨rfl, e⟩, if_pos e]
    · rw [if_neg (fun q => e q.2), if_neg e]; exact h.1 i
  · rw [aI_sI]
    show _ = if i = j then w else a.2 i
    by_cases e : i = j
    · rw [if_pos ⟨rfl, e⟩, if_pos e]
    · rw [if_neg (fun q => e q.2), if_neg e, aI_nk (by omega)]; exact h.2 i
theorem eqE_sp {M : aM} {j : Nat} {v w : Int32} : eqE fsp M (s_I (s_I M 133 j v) 134 j w) := eqE_s (eqE_s eqE_rf rfl) rfl
set_option maxHeartbeats 4000000 in
theorem r_nar {cd : Nat → Nat → Option aI} {z : Bool} (hz : ∀ m p i, cd0 z m p = some i → cd m p = some i) {u : Nat} {M : aM} (hA : nv_A nvU (tauN u) M) {a : spA} (hS : SpM M a) {j : Nat} {i l h : Int32} (hi : i.toInt = (j : Int)) (hj : j < 30) {d : Nat} : wpS cd (d, [], 237, 0, nv_l (tauN u) (la 0 [.inr (.inr (some 113)), .inl i, .inl l, .inl h]), [], M) (fun r M' => ∃ y, r = some (.inl y) ∧ eqE fsp M M' ∧ SpM M' (spC j l h a).1 ∧ y = (bif (spC j l h a).2 then 1 else 0)) := by
  show wpS cd (nv_S (tauN u) (d, [], 237, 0, la 0 [.inr (.inr (some 113)), .inl i, .inl l, .inl h], [], M)) _
  have hct := hc_of hz
  have e1 : a_I M 133 i.toNatClampNeg = a.1 j := by rw [tnc hi]; exact hS.1 j
  have e2 : a_I M 134 i.toNatClampNeg = a.2 j := by rw [tnc hi]; exact hS.2 j
  refine nv_cut hct nvU 237 6 7 (S' := (d, [], 237, 6, [(0, .inr (.inr (some 113))), (1, .inl i), (2, .inl l), (3, .inl h)], [.inl i, .inr (.inr (some 133)), .inl l], M)) hA rfl ?_
  refine nv_ald hct hA rfl (show nvU.1 133 = 15 + 1 from rfl) (show nvU.2.1 133 = 30 + 1 from rfl) (inb_p hi (by omega)) ?_
  refine nv_cut hct nvU 237 7 3 (S' := (d, [], 237, 7, [(0, .inr (.inr (some 113))), (1, .inl i), (2, .inl l), (3, .inl h)], [.inl (a_I M 133 i.toNatClampNeg), .inl l], M)) hA rfl ?_
  have c9 : ∀ (c : l.toInt ≤ (a.1 j).toInt ∧ (a.2 j).toInt ≤ h.toInt), spC j l h a = (a, false) := fun c => by unfold spC; rw [if_pos c]
  have c8 : ∀ (c : ¬ (l.toInt ≤ (a.1 j).toInt ∧ (a.2 j).toInt ≤ h.toInt)), spC j l h a = ((upF a.1 j (if (a.1 j).toInt < l.toInt then l else a.1 j), upF a.2 j (if h.toInt < (a.2 j).toInt then h else a.2 j)), true) := fun c => by unfold spC; rw [if_neg c]
  by_cases c1 : (a.1 j).toInt < l.toInt
  · skip
    refine nv_ifc hct true rfl (ccT3 rfl (congrArg Int32.toInt e1) c1) ?_
    by_cases c2 : h.toInt < (a.2 j).toInt
    · skip
      refine nv_cut hct nvU 237 33 10 (S' := (d, [], 237, 33, [(0, .inr (.inr (some 113))), (1, .inl i), (2, .inl l), (3, .inl h)], [.inl i, .inr (.inr (some 133)), .inl l, .inl i, .inr (.inr (some 133))], M)) hA rfl ?_
      refine nv_ald hct hA rfl (show nvU.1 133 = 15 + 1 from rfl) (show nvU.2.1 133 = 30 + 1 from rfl) (inb_p hi (by omega)) ?_
      refine nv_cut hct nvU 237 34 3 (S' := (d, [], 237, 34, [(0, .inr (.inr (some 113))), (1, .inl i), (2, .inl l), (3, .inl h)], [.inl (a_I M 133 i.toNatClampNeg), .inl l, .inl i, .inr (.inr (some 133))], M)) hA rfl ?_
      refine nv_ifc hct false rfl (ccF2 rfl (congrArg Int32.toInt e1) (by omega)) ?_
      refine nv_cut hct nvU 237 47 5 (S' := (d, [], 237, 47, [(0, .inr (.inr (some 113))), (1, .inl i), (2, .inl l), (3, .inl h)], [.inl l, .inl i, .inr (.inr (some 133))], M)) hA rfl ?_
      refine nv_ast hct hA rfl (show nvU.1 133 = 15 + 1 from rfl) (show nvU.2.1 133 = 30 + 1 from rfl) (inb_p hi (by omega)) ?_
      have e3 : a_I (s_I M 133 i.toNatClampNeg l) 134 i.toNatClampNeg = a.2 j := by rw [aI_nk (by omega)]; exact e2
      refine nv_cut hct nvU 237 59 10 (S' := (d, [], 237, 59, [(0, .inr (.inr (some 113))), (1, .inl i), (2, .inl l), (3, .inl h)], [.inl i, .inr (.inr (some 134)), .inl h, .inl i, .inr (.inr (some 134))], (s_I M 133 i.toNatClampNeg l))) (nv_As hA) rfl ?_
      refine nv_ald hct (nv_As hA) rfl (show nvU.1 134 = 15 + 1 from rfl) (show nvU.2.1 134 = 30 + 1 from rfl) (inb_p hi (by omega)) ?_
      refine nv_cut hct nvU 237 60 3 (S' := (d, [], 237, 60, [(0, .inr (.inr (some 113))), (1, .inl i), (2, .inl l), (3, .inl h)], [.inl (a_I M 134 i.toNatClampNeg), .inl h, .inl i, .inr (.inr (some 134))], (s_I M 133 i.toNatClampNeg l))) (nv_As hA) rfl ?_
      refine nv_ifc hct false rfl (ccF4 rfl (congrArg Int32.toInt e2) (by omega)) ?_
      refine nv_cut hct nvU 237 73 5 (S' := (d, [], 237, 73, [(0, .inr (.inr (some 113))), (1, .inl i), (2, .inl l), (3, .inl h)], [.inl h, .inl i, .inr (.inr (some 134))], (s_I M 133 i.toNatClampNeg l))) (nv_As hA) rfl ?_
      refine nv_ast hct (nv_As hA) rfl (show nvU.1 134 = 15 + 1 from rfl) (show nvU.2.1 134 = 30 + 1 from rfl) (inb_p hi (by omega)) ?_
      refine nv_cut hct nvU 237 75 4 (S' := (d, [], 237, 75, [(0, .inr (.inr (some 113))), (1, .inl i), (2, .inl l), (3, .inl h)], [.inl (1 : Int32)], (s_I (s_I M 133 i.toNatClampNeg l) 134 i.toNatClampNeg h))) (nv_As (nv_As hA)) rfl ?_
      refine nv_iret hct rfl rfl ⟨_, rfl, ?_⟩
      rw [c8 (by omega), if_pos (by omega), if_pos (by omega), tnc hi]
      exact ⟨eqE_sp, SpM_1 hS, rfl⟩
    · skip
      refine nv_cut hct nvU 237 33 10 (S' := (d, [], 237, 33, [(0, .inr (.inr (some 113))), (1, .inl i), (2, .inl l), (3, .inl h)], [.inl i, .inr (.inr (some 133)), .inl l, .inl i, .inr (.inr (some 133))], M)) hA rfl ?_
      refine nv_ald hct hA rfl (show nvU.1 133 = 15 + 1 from rfl) (show nvU.2.1 133 = 30 + 1 from rfl) (inb_p hi (by omega)) ?_
      refine nv_cut hct nvU 237 34 3 (S' := (d, [], 237, 34, [(0, .inr (.inr (some 113))), (1, .inl i), (2, .inl l), (3, .inl h)], [.inl (a_I M 133 i.toNatClampNeg), .inl l, .inl i, .inr (.inr (some 133))], M)) hA rfl ?_
      refine nv_ifc hct false rfl (ccF2 rfl (congrArg Int32.toInt e1) (by omega)) ?_
      refine nv_cut hct nvU 237 47 5 (S' := (d, [], 237, 47, [(0, .inr (.inr (some 113))), (1, .inl i), (2, .inl l), (3, .inl h)], [.inl l, .inl i, .inr (.inr (some 133))], M)) hA rfl ?_
      refine nv_ast hct hA rfl (show nvU.1 133 = 15 + 1 from rfl) (show nvU.2.1 133 = 30 + 1 from rfl) (inb_p hi (by omega)) ?_
      have e3 : a_I (s_I M 133 i.toNatClampNeg l) 134 i.toNatClampNeg = a.2 j := by rw [aI_nk (by omega)]; exact e2
      refine nv_cut hct nvU 237 59 10 (S' := (d, [], 237, 59, [(0, .inr (.inr (some 113))), (1, .inl i), (2, .inl l), (3, .inl h)], [.inl i, .inr (.inr (some 134)), .inl h, .inl i, .inr (.inr (some 134))], (s_I M 133 i.toNatClampNeg l))) (nv_As hA) rfl ?_
      refine nv_ald hct (nv_As hA) rfl (show nvU.1 134 = 15 + 1 from rfl) (show nvU.2.1 134 = 30 + 1 from rfl) (inb_p hi (by omega)) ?_
      refine nv_cut hct nvU 237 60 3 (S' := (d, [], 237, 60, [(0, .inr (.inr (some 113))), (1, .inl i), (2, .inl l), (3, .inl h)], [.inl (a_I M 134 i.toNatClampNeg), .inl h, .inl i, .inr (.inr (some 134))], (s_I M 133 i.toNatClampNeg l))) (nv_As hA) rfl ?_
      refine nv_ifc hct true rfl (ccT4 rfl (congrArg Int32.toInt e2) (by omega)) ?_
      refine nv_cut hct nvU 237 72 6 (S' := (d, [], 237, 72, [(0, .inr (.inr (some 113))), (1, .inl i), (2, .inl l), (3, .inl h)], [.inl i, .inr (.inr (some 134)), .inl i, .inr (.inr (some 134))], (s_I M 133 i.toNatClampNeg l))) (nv_As hA) rfl ?_
      refine nv_ald hct (nv_As hA) rfl (show nvU.1 134 = 15 + 1 from rfl) (show nvU.2.1 134 = 30 + 1 from rfl) (inb_p hi (by omega)) ?_
      refine nv_ast hct (nv_As hA) rfl (show nvU.1 134 = 15 + 1 from rfl) (show nvU.2.1 134 = 30 + 1 from rfl) (inb_p hi (by omega)) ?_
      refine nv_cut hct nvU 237 75 4 (S' := (d, [], 237, 75, [(0, .inr (.inr (some 113))), (1, .inl i), (2, .inl l), (3, .inl h)], [.inl (1 : Int32)], (s_I (s_I M 133 i.toNatClampNeg l) 134 i.toNatClampNeg (a_I M 134 i.toNatClampNeg)))) (nv_As (nv_As hA)) rfl ?_
      refine nv_iret hct rfl rfl ⟨_, rfl, ?_⟩
      rw [c8 (by omega), if_pos (by omega), if_neg (by omega), tnc hi, show a_I M 134 j = a.2 j from hS.2 j]
      exact ⟨eqE_sp, SpM_1 hS, rfl⟩
  · skip
    refine nv_ifc hct false rfl (ccF3 rfl (congrArg Int32.toInt e1) (by omega)) ?_
    refine nv_cut hct nvU 237 16 7 (S' := (d, [], 237, 16, [(0, .inr (.inr (some 113))), (1, .inl i), (2, .inl l), (3, .inl h)], [.inl i, .inr (.inr (some 134)), .inl h], M)) hA rfl ?_
    refine nv_ald hct hA rfl (show nvU.1 134 = 15 + 1 from rfl) (show nvU.2.1 134 = 30 + 1 from rfl) (inb_p hi (by omega)) ?_
    refine nv_cut hct nvU 237 17 3 (S' := (d, [], 237, 17, [(0, .inr (.inr (some 113))), (1, .inl i), (2, .inl l), (3, .inl h)], [.inl (a_I M 134 i.toNatClampNeg), .inl h], M)) hA rfl ?_
    by_cases c2 : h.toInt < (a.2 j).toInt
    · skip
      refine nv_ifc hct true rfl (ccT0 rfl (congrArg Int32.toInt e2) c2) ?_
      refine nv_cut hct nvU 237 33 10 (S' := (d, [], 237, 33, [(0, .inr (.inr (some 113))), (1, .inl i), (2, .inl l), (3, .inl h)], [.inl i, .inr (.inr (some 133)), .inl l, .inl i, .inr (.inr (some 133))], M)) hA rfl ?_
      refine nv_ald hct hA rfl (show nvU.1 133 = 15 + 1 from rfl) (show nvU.2.1 133 = 30 + 1 from rfl) (inb_p hi (by omega)) ?_
      refine nv_cut hct nvU 237 34 3 (S' := (d, [], 237, 34, [(0, .inr (.inr (some 113))), (1, .inl i), (2, .inl l), (3, .inl h)], [.inl (a_I M 133 i.toNatClampNeg), .inl l, .inl i, .inr (.inr (some 133))], M)) hA rfl ?_
      refine nv_ifc hct true rfl (ccT2 rfl (congrArg Int32.toInt e1) (by omega)) ?_
      refine nv_cut hct nvU 237 46 6 (S' := (d, [], 237, 46, [(0, .inr (.inr (some 113))), (1, .inl i), (2, .inl l), (3, .inl h)], [.inl i, .inr (.inr (some 133)), .inl i, .inr (.inr (some 133))], M)) hA rfl ?_
      refine nv_ald hct hA rfl (show nvU.1 133 = 15 + 1 from rfl) (show nvU.2.1 133 = 30 + 1 from rfl) (inb_p hi (by omega)) ?_
      refine nv_ast hct hA rfl (show nvU.1 133 = 15 + 1 from rfl) (show nvU.2.1 133 = 30 + 1 from rfl) (inb_p hi (by omega)) ?_
      have e3 : a_I (s_I M 133 i.toNatClampNeg (a_I M 133 i.toNatClampNeg)) 134 i.toNatClampNeg = a.2 j := by rw [aI_nk (by omega)]; exact e2
      refine nv_cut hct nvU 237 59 10 (S' := (d, [], 237, 59, [(0, .inr (.inr (some 113))), (1, .inl i), (2, .inl l), (3, .inl h)], [.inl i, .inr (.inr (some 134)), .inl h, .inl i, .inr (.inr (some 134))], (s_I M 133 i.toNatClampNeg (a_I M 133 i.toNatClampNeg)))) (nv_As hA) rfl ?_
      refine nv_ald hct (nv_As hA) rfl (show nvU.1 134 = 15 + 1 from rfl) (show nvU.2.1 134 = 30 + 1 from rfl) (inb_p hi (by omega)) ?_
      refine nv_cut hct nvU 237 60 3 (S' := (d, [], 237, 60, [(0, .inr (.inr (some 113))), (1, .inl i), (2, .inl l), (3, .inl h)], [.inl (a_I M 134 i.toNatClampNeg), .inl h, .inl i, .inr (.inr (some 134))], (s_I M 133 i.toNatClampNeg (a_I M 133 i.toNatClampNeg)))) (nv_As hA) rfl ?_
      refine nv_ifc hct false rfl (ccF4 rfl (congrArg Int32.toInt e2) (by omega)) ?_
      refine nv_cut hct nvU 237 73 5 (S' := (d, [], 237, 73, [(0, .inr (.inr (some 113))), (1, .inl i), (2, .inl l), (3, .inl h)], [.inl h, .inl i, .inr (.inr (some 134))], (s_I M 133 i.toNatClampNeg (a_I M 133 i.toNatClampNeg)))) (nv_As hA) rfl ?_
      refine nv_ast hct (nv_As hA) rfl (show nvU.1 134 = 15 + 1 from rfl) (show nvU.2.1 134 = 30 + 1 from rfl) (inb_p hi (by omega)) ?_
      refine nv_cut hct nvU 237 75 4 (S' := (d, [], 237, 75, [(0, .inr (.inr (some 113))), (1, .inl i), (2, .inl l), (3, .inl h)], [.inl (1 : Int32)], (s_I (s_I M 133 i.toNatClampNeg (a_I M 133 i.toNatClampNeg)) 134 i.toNatClampNeg h))) (nv_As (nv_As hA)) rfl ?_
      refine nv_iret hct rfl rfl ⟨_, rfl, ?_⟩
      rw [c8 (by omega), if_neg (by omega), if_pos (by omega), tnc hi, show a_I M 133 j = a.1 j from hS.1 j]
      exact ⟨eqE_sp, SpM_1 hS, rfl⟩
    · skip
      refine nv_ifc hct false rfl (ccF0 rfl (congrArg Int32.toInt e2) (by omega)) ?_
      refine nv_cut hct nvU 237 21 4 (S' := (d, [], 237, 21, [(0, .inr (.inr (some 113))), (1, .inl i), (2, .inl l), (3, .inl h)], [.inl (0 : Int32)], M)) hA rfl ?_
      refine nv_iret hct rfl rfl ⟨_, rfl, ?_⟩
      rw [c9 (by omega)]
      exact ⟨eqE_rf, hS, rfl⟩
theorem sp_or1 {cd : Nat → Nat → Option aI} {z : Bool} (hz : ∀ m p i, cd0 z m p = some i → cd m p = some i) {u : Nat} {M : aM} (hA : nv_A nvU (tauN u) M) {i k : Int32} {c m : Bool} {d : Nat} {Q : aQ} (h : wpS cd (nv_S (tauN u) (d + 1, [], 238, 166, [(3, .inl i), (2, .inl (bif m then (1 : Int32) else 0)), (0, .inr (.inr (some 113))), (1, .inl k)], [.inl (bif c || m then (1 : Int32) else 0)], M)) Q) : wpS cd (nv_S (tauN u) (d + 1, [], 238, 154, [(3, .inl i), (2, .inl (bif m then (1 : Int32) else 0)), (0, .inr (.inr (some 113))), (1, .inl k)], [.inl (bif c then (1 : Int32) else 0)], M)) Q := by
  have hct := hc_of hz
  cases c with
  | false =>
    cases m with
    | false =>
      show wpS cd (nv_S (tauN u) (d + 1, [], 238, 154, [(3, .inl i), (2, .inl (0 : Int32)), (0, .inr (.inr (some 113))), (1, .inl k)], [.inl (0 : Int32)], M)) Q
      refine nv_cut hct nvU 238 166 7 (S' := (d + 1, [], 238, 166, [(3, .inl i), (2, .inl (0 : Int32)), (0, .inr (.inr (some 113))), (1, .inl k)], [.inl (0 : Int32)], M)) hA rfl ?_
      exact h
    | true =>
      show wpS cd (nv_S (tauN u) (d + 1, [], 238, 154, [(3, .inl i), (2, .inl (1 : Int32)), (0, .inr (.inr (some 113))), (1, .inl k)], [.inl (0 : Int32)], M)) Q
      refine nv_cut hct nvU 238 166 8 (S' := (d + 1, [], 238, 166, [(3, .inl i), (2, .inl (1 : Int32)), (0, .inr (.inr (some 113))), (1, .inl k)], [.inl (1 : Int32)], M)) hA rfl ?_
      exact h
  | true =>
    cases m with
    | false =>
      show wpS cd (nv_S (tauN u) (d + 1, [], 238, 154, [(3, .inl i), (2, .inl (0 : Int32)), (0, .inr (.inr (some 113))), (1, .inl k)], [.inl (1 : Int32)], M)) Q
      refine nv_cut hct nvU 238 166 6 (S' := (d + 1, [], 238, 166, [(3, .inl i), (2, .inl (0 : Int32)), (0, .inr (.inr (some 113))), (1, .inl k)], [.inl (1 : Int32)], M)) hA rfl ?_
      exact h
    | true =>
      show wpS cd (nv_S (tauN u) (d + 1, [], 238, 154, [(3, .inl i), (2, .inl (1 : Int32)), (0, .inr (.inr (some 113))), (1, .inl k)], [.inl (1 : Int32)], M)) Q
      refine nv_cut hct nvU 238 166 6 (S' := (d + 1, [], 238, 166, [(3, .inl i), (2, .inl (1 : Int32)), (0, .inr (.inr (some 113))), (1, .inl k)], [.inl (1 : Int32)], M)) hA rfl ?_
      exact h
theorem sp_or2 {cd : Nat → Nat → Option aI} {z : Bool} (hz : ∀ m p i, cd0 z m p = some i → cd m p = some i) {u : Nat} {M : aM} (hA : nv_A nvU (tauN u) M) {i k : Int32} {c m : Bool} {d : Nat} {Q : aQ} (h : wpS cd (nv_S (tauN u) (d + 1, [], 238, 224, [(2, .inl (bif m then (1 : Int32) else 0)), (3, .inl i), (0, .inr (.inr (some 113))), (1, .inl k)], [.inl (bif c || m then (1 : Int32) else 0)], M)) Q) : wpS cd (nv_S (tauN u) (d + 1, [], 238, 212, [(2, .inl (bif m then (1 : Int32) else 0)), (3, .inl i), (0, .inr (.inr (some 113))), (1, .inl k)], [.inl (bif c then (1 : Int32) else 0)], M)) Q := by
  have hct := hc_of hz
  cases c with
  | false =>
    cases m with
    | false =>
      show wpS cd (nv_S (tauN u) (d + 1, [], 238, 212, [(2, .inl (0 : Int32)), (3, .inl i), (0, .inr (.inr (some 113))), (1, .inl k)], [.inl (0 : Int32)], M)) Q
      refine nv_cut hct nvU 238 224 7 (S' := (d + 1, [], 238, 224, [(2, .inl (0 : Int32)), (3, .inl i), (0, .inr (.inr (some 113))), (1, .inl k)], [.inl (0 : Int32)], M)) hA rfl ?_
      exact h
    | true =>
      show wpS cd (nv_S (tauN u) (d + 1, [], 238, 212, [(2, .inl (1 : Int32)), (3, .inl i), (0, .inr (.inr (some 113))), (1, .inl k)], [.inl (0 : Int32)], M)) Q
      refine nv_cut hct nvU 238 224 8 (S' := (d + 1, [], 238, 224, [(2, .inl (1 : Int32)), (3, .inl i), (0, .inr (.inr (some 113))), (1, .inl k)], [.inl (1 : Int32)], M)) hA rfl ?_
      exact h
  | true =>
    cases m with
    | false =>
      show wpS cd (nv_S (tauN u) (d + 1, [], 238, 212, [(2, .inl (0 : Int32)), (3, .inl i), (0, .inr (.inr (some 113))), (1, .inl k)], [.inl (1 : Int32)], M)) Q
      refine nv_cut hct nvU 238 224 6 (S' := (d + 1, [], 238, 224, [(2, .inl (0 : Int32)), (3, .inl i), (0, .inr (.inr (some 113))), (1, .inl k)], [.inl (1 : Int32)], M)) hA rfl ?_
      exact h
    | true =>
      show wpS cd (nv_S (tauN u) (d + 1, [], 238, 212, [(2, .inl (1 : Int32)), (3, .inl i), (0, .inr (.inr (some 113))), (1, .inl k)], [.inl (1 : Int32)], M)) Q
      refine nv_cut hct nvU 238 224 6 (S' := (d + 1, [], 238, 224, [(2, .inl (1 : Int32)), (3, .inl i), (0, .inr (.inr (some 113))), (1, .inl k)], [.inl (1 : Int32)], M)) hA rfl ?_
      exact h
theorem sp_or3 {cd : Nat → Nat → Option aI} {z : Bool} (hz : ∀ m p i, cd0 z m p = some i → cd m p = some i) {u : Nat} {M : aM} (hA : nv_A nvU (tauN u) M) {i k : Int32} {c m : Bool} {d : Nat} {Q : aQ} (h : wpS cd (nv_S (tauN u) (d + 1, [], 238, 282, [(2, .inl (bif m then (1 : Int32) else 0)), (3, .inl i), (0, .inr (.inr (some 113))), (1, .inl k)], [.inl (bif c || m then (1 : Int32) else 0)], M)) Q) : wpS cd (nv_S (tauN u) (d + 1, [], 238, 270, [(2, .inl (bif m then (1 : Int32) else 0)), (3, .inl i), (0, .inr (.inr (some 113))), (1, .inl k)], [.inl (bif c then (1 : Int32) else 0)], M)) Q := by
  have hct := hc_of hz
  cases c with
  | false =>
    cases m with
    | false =>
      show wpS cd (nv_S (tauN u) (d + 1, [], 238, 270, [(2, .inl (0 : Int32)), (3, .inl i), (0, .inr (.inr (some 113))), (1, .inl k)], [.inl (0 : Int32)], M)) Q
      refine nv_cut hct nvU 238 282 7 (S' := (d + 1, [], 238, 282, [(2, .inl (0 : Int32)), (3, .inl i), (0, .inr (.inr (some 113))), (1, .inl k)], [.inl (0 : Int32)], M)) hA rfl ?_
      exact h
    | true =>
      show wpS cd (nv_S (tauN u) (d + 1, [], 238, 270, [(2, .inl (1 : Int32)), (3, .inl i), (0, .inr (.inr (some 113))), (1, .inl k)], [.inl (0 : Int32)], M)) Q
      refine nv_cut hct nvU 238 282 8 (S' := (d + 1, [], 238, 282, [(2, .inl (1 : Int32)), (3, .inl i), (0, .inr (.inr (some 113))), (1, .inl k)], [.inl (1 : Int32)], M)) hA rfl ?_
      exact h
  | true =>
    cases m with
    | false =>
      show wpS cd (nv_S (tauN u) (d + 1, [], 238, 270, [(2, .inl (0 : Int32)), (3, .inl i), (0, .inr (.inr (some 113))), (1, .inl k)], [.inl (1 : Int32)], M)) Q
      refine nv_cut hct nvU 238 282 6 (S' := (d + 1, [], 238, 282, [(2, .inl (0 : Int32)), (3, .inl i), (0, .inr (.inr (some 113))), (1, .inl k)], [.inl (1 : Int32)], M)) hA rfl ?_
      exact h
    | true =>
      show wpS cd (nv_S (tauN u) (d + 1, [], 238, 270, [(2, .inl (1 : Int32)), (3, .inl i), (0, .inr (.inr (some 113))), (1, .inl k)], [.inl (1 : Int32)], M)) Q
      refine nv_cut hct nvU 238 282 6 (S' := (d + 1, [], 238, 282, [(2, .inl (1 : Int32)), (3, .inl i), (0, .inr (.inr (some 113))), (1, .inl k)], [.inl (1 : Int32)], M)) hA rfl ?_
      exact h
set_option maxHeartbeats 8000000 in
theorem r_swp {cd : Nat → Nat → Option aI} {z : Bool} (hz : ∀ m p i, cd0 z m p = some i → cd m p = some i) {u n : Nat} {nI k : Int32} (hn : nI.toInt = (n : Int)) (hn3 : n ≤ 30) (hu1 : u ≠ 133) (hu2 : u ≠ 134) {d : Nat} {Q : aQ} : ∀ (f : Nat) {j : Nat} {i : Int32} {m : Bool} {a : spA} {M : aM}, 1 ≤ j → j + 1 + f = n → i.toInt = (j : Int) → nv_A nvU (tauN u) M → a_I M u 0 = nI → SpM M a → (∀ M', eqE fsp M M' → SpM M' (swp k f j m a).1.1 → (swp k f j m a).2 = false → Q (some (.inl 0)) M') → (∀ M' i', eqE fsp M M' → SpM M' (swp k f j m a).1.1 → (swp k f j m a).2 = true → wpS cd (nv_S (tauN u) (d + 1, [], 238, 344, [(3, .inl i'), (2, .inl (bif (swp k f j m a).1.2 then (1 : Int32) else 0)), (0, .inr (.inr (some 113))), (1, .inl k)], [], M')) Q) → wpS cd (nv_S (tauN u) (d + 1, [], 238, 92, [(3, .inl i), (2, .inl (bif m then (1 : Int32) else 0)), (0, .inr (.inr (some 113))), (1, .inl k)], [], M)) Q := by
  have hct := hc_of hz
  have hU : nv_s (tauN u) 137 = u := by rw [show (137 : Nat) = 137 + 0 from rfl, nv_hi (by omega), Nat.add_zero]
  intro f
  induction f with
  | zero =>
    intro j i m a M h1 h2 hi hA h0 hS q0 q1
    have hin : (a_I M (nv_s (tauN u) 137) 0).toInt = (n : Int) := by rw [hU, h0]; exact hn
    have hi1 := add_p hi (by omega) (by omega)
    refine nv_cut hct nvU 238 102 9 (S' := (d + 1, [], 238, 102, [(3, .inl i), (2, .inl (bif m then (1 : Int32) else 0)), (0, .inr (.inr (some 113))), (1, .inl k)], [.inl (a_I M (nv_s (tauN u) 137) 0), .inl (i + (1 : Int32))], M)) hA rfl ?_
    refine nv_ifc hct true rfl (ccT4 hi1 hin (by omega)) ?_
    exact q1 M i eqE_rf hS rfl
  | succ f ih =>
    intro j i m a M h1 h2 hi hA h0 hS q0 q1
    have hin : (a_I M (nv_s (tauN u) 137) 0).toInt = (n : Int) := by rw [hU, h0]; exact hn
    have hi1 := add_p hi (by omega) (by omega)
    have him : (i - 1).toInt = ((j - 1 : Nat) : Int) := by rw [sub_1 hi (by omega) (by omega)]; omega
    have hip : (i + 1).toInt = ((j + 1 : Nat) : Int) := by rw [hi1]; omega
    have t0 := tnc hi
    have tm := tnc him
    have tp := tnc hip
    refine nv_cut hct nvU 238 102 9 (S' := (d + 1, [], 238, 102, [(3, .inl i), (2, .inl (bif m then (1 : Int32) else 0)), (0, .inr (.inr (some 113))), (1, .inl k)], [.inl (a_I M (nv_s (tauN u) 137) 0), .inl (i + (1 : Int32))], M)) hA rfl ?_
    refine nv_ifc hct false rfl (ccF4 hi1 hin (by omega)) ?_
    refine nv_cut hct nvU 238 114 10 (S' := (d + 1, [], 238, 114, [(3, .inl i), (2, .inl (bif m then (1 : Int32) else 0)), (0, .inr (.inr (some 113))), (1, .inl k)], [.inl (i - (1 : Int32)), .inr (.inr (some 133)), .inl i, .inr (.inr (some 113))], M)) hA rfl ?_
    refine nv_ald hct hA rfl (show nvU.1 133 = 15 + 1 from rfl) (show nvU.2.1 133 = 30 + 1 from rfl) (inb_p him (by omega)) ?_
    refine nv_cut hct nvU 238 122 8 (S' := (d + 1, [], 238, 122, [(3, .inl i), (2, .inl (bif m then (1 : Int32) else 0)), (0, .inr (.inr (some 113))), (1, .inl k)], [.inl (i + (1 : Int32)), .inr (.inr (some 133)), .inl (a_I M 133 (i - (1 : Int32)).toNatClampNeg), .inl i, .inr (.inr (some 113))], M)) hA rfl ?_
    refine nv_ald hct hA rfl (show nvU.1 133 = 15 + 1 from rfl) (show nvU.2.1 133 = 30 + 1 from rfl) (inb_p hip (by omega)) ?_
    refine nv_cut hct nvU 238 137 15 (S' := (d + 1, [], 238, 137, [(3, .inl i), (2, .inl (bif m then (1 : Int32) else 0)), (0, .inr (.inr (some 113))), (1, .inl k)], [.inl (i - (1 : Int32)), .inr (.inr (some 134)), .inl (binf 5 ((((a_I M 133 (i - (1 : Int32)).toNatClampNeg) + (a_I M 133 (i + (1 : Int32)).toNatClampNeg)) - k) + (1 : Int32)) (1 : Int32)), .inl i, .inr (.inr (some 113))], M)) hA rfl ?_
    refine nv_ald hct hA rfl (show nvU.1 134 = 15 + 1 from rfl) (show nvU.2.1 134 = 30 + 1 from rfl) (inb_p him (by omega)) ?_
    refine nv_cut hct nvU 238 145 8 (S' := (d + 1, [], 238, 145, [(3, .inl i), (2, .inl (bif m then (1 : Int32) else 0)), (0, .inr (.inr (some 113))), (1, .inl k)], [.inl (i + (1 : Int32)), .inr (.inr (some 134)), .inl (a_I M 134 (i - (1 : Int32)).toNatClampNeg), .inl (binf 5 ((((a_I M 133 (i - (1 : Int32)).toNatClampNeg) + (a_I M 133 (i + (1 : Int32)).toNatClampNeg)) - k) + (1 : Int32)) (1 : Int32)), .inl i, .inr (.inr (some 113))], M)) hA rfl ?_
    refine nv_ald hct hA rfl (show nvU.1 134 = 15 + 1 from rfl) (show nvU.2.1 134 = 30 + 1 from rfl) (inb_p hip (by omega)) ?_
    refine nv_cut hct nvU 237 0 9 (S' := (d, [(238, 154, [(3, .inl i), (2, .inl (bif m then (1 : Int32) else 0)), (0, .inr (.inr (some 113))), (1, .inl k)], [])], 237, 0, la 0 [.inr (.inr (some 113)), .inl i, .inl (binf 5 ((((a_I M 133 (i - (1 : Int32)).toNatClampNeg) + (a_I M 133 (i + (1 : Int32)).toNatClampNeg)) - k) + (1 : Int32)) (1 : Int32)), .inl (binf 5 (((a_I M 134 (i - (1 : Int32)).toNatClampNeg) + (a_I M 134 (i + (1 : Int32)).toNatClampNeg)) + k) (1 : Int32))], [], M)) hA rfl ?_
    have WM1 : spC j (binf 5 ((((a_I M 133 (i - (1 : Int32)).toNatClampNeg) + (a_I M 133 (i + (1 : Int32)).toNatClampNeg)) - k) + (1 : Int32)) (1 : Int32)) (binf 5 (((a_I M 134 (i - (1 : Int32)).toNatClampNeg) + (a_I M 134 (i + (1 : Int32)).toNatClampNeg)) + k) (1 : Int32)) a = spt1 k j a := by
      unfold spt1
      simp only [t0, tm, tp, hS.1, hS.2]
    refine nv_calli (r_nar hz (d := d) hA hS (j := j) hi (by omega)) (fun rM1 M1 ⟨EM1, SM1, yM1⟩ => ?_)
    rw [WM1] at SM1 yM1
    subst yM1
    have AM1 : nv_A nvU (tauN u) M1 := eqE_A EM1 hA
    refine sp_or1 hz AM1 ?_
    refine nv_cut hct nvU 238 177 12 (S' := (d + 1, [], 238, 177, [(2, .inl (bif (spt1 k j a).2 || m then (1 : Int32) else 0)), (3, .inl i), (0, .inr (.inr (some 113))), (1, .inl k)], [.inl i, .inr (.inr (some 133)), .inl (2 : Int32), .inl (i - (1 : Int32)), .inr (.inr (some 113))], M1)) AM1 rfl ?_
    refine nv_ald hct AM1 rfl (show nvU.1 133 = 15 + 1 from rfl) (show nvU.2.1 133 = 30 + 1 from rfl) (inb_p hi (by omega)) ?_
    refine nv_cut hct nvU 238 186 9 (S' := (d + 1, [], 238, 186, [(2, .inl (bif (spt1 k j a).2 || m then (1 : Int32) else 0)), (3, .inl i), (0, .inr (.inr (some 113))), (1, .inl k)], [.inl (i + (1 : Int32)), .inr (.inr (some 134)), .inl ((2 : Int32) * (a_I M1 133 i.toNatClampNeg)), .inl (i - (1 : Int32)), .inr (.inr (some 113))], M1)) AM1 rfl ?_
    refine nv_ald hct AM1 rfl (show nvU.1 134 = 15 + 1 from rfl) (show nvU.2.1 134 = 30 + 1 from rfl) (inb_p hip (by omega)) ?_
    refine nv_cut hct nvU 238 196 10 (S' := (d + 1, [], 238, 196, [(2, .inl (bif (spt1 k j a).2 || m then (1 : Int32) else 0)), (3, .inl i), (0, .inr (.inr (some 113))), (1, .inl k)], [.inl i, .inr (.inr (some 134)), .inl (2 : Int32), .inl ((((2 : Int32) * (a_I M1 133 i.toNatClampNeg)) - (a_I M1 134 (i + (1 : Int32)).toNatClampNeg)) - k), .inl (i - (1 : Int32)), .inr (.inr (some 113))], M1)) AM1 rfl ?_
    refine nv_ald hct AM1 rfl (show nvU.1 134 = 15 + 1 from rfl) (show nvU.2.1 134 = 30 + 1 from rfl) (inb_p hi (by omega)) ?_
    refine nv_cut hct nvU 238 205 9 (S' := (d + 1, [], 238, 205, [(2, .inl (bif (spt1 k j a).2 || m then (1 : Int32) else 0)), (3, .inl i), (0, .inr (.inr (some 113))), (1, .inl k)], [.inl (i + (1 : Int32)), .inr (.inr (some 133)), .inl ((2 : Int32) * (a_I M1 134 i.toNatClampNeg)), .inl ((((2 : Int32) * (a_I M1 133 i.toNatClampNeg)) - (a_I M1 134 (i + (1 : Int32)).toNatClampNeg)) - k), .inl (i - (1 : Int32)), .inr (.inr (some 113))], M1)) AM1 rfl ?_
    refine nv_ald hct AM1 rfl (show nvU.1 133 = 15 + 1 from rfl) (show nvU.2.1 133 = 30 + 1 from rfl) (inb_p hip (by omega)) ?_
    refine nv_cut hct nvU 237 0 7 (S' := (d, [(238, 212, [(2, .inl (bif (spt1 k j a).2 || m then (1 : Int32) else 0)), (3, .inl i), (0, .inr (.inr (some 113))), (1, .inl k)], [])], 237, 0, la 0 [.inr (.inr (some 113)), .inl (i - (1 : Int32)), .inl ((((2 : Int32) * (a_I M1 133 i.toNatClampNeg)) - (a_I M1 134 (i + (1 : Int32)).toNatClampNeg)) - k), .inl ((((2 : Int32) * (a_I M1 134 i.toNatClampNeg)) - (a_I M1 133 (i + (1 : Int32)).toNatClampNeg)) + k)], [], M1)) AM1 rfl ?_
    have WM2 : spC (j - 1) ((((2 : Int32) * (a_I M1 133 i.toNatClampNeg)) - (a_I M1 134 (i + (1 : Int32)).toNatClampNeg)) - k) ((((2 : Int32) * (a_I M1 134 i.toNatClampNeg)) - (a_I M1 133 (i + (1 : Int32)).toNatClampNeg)) + k) (spt1 k j a).1 = spt2 k j (spt1 k j a).1 := by
      unfold spt2
      simp only [t0, tm, tp, SM1.1, SM1.2]
    refine nv_calli (r_nar hz (d := d) AM1 SM1 (j := (j - 1)) him (by omega)) (fun rM2 M2 ⟨EM2, SM2, yM2⟩ => ?_)
    rw [WM2] at SM2 yM2
    subst yM2
    have AM2 : nv_A nvU (tauN u) M2 := eqE_A EM2 AM1
    refine sp_or2 hz AM2 ?_
    refine nv_cut hct nvU 238 235 12 (S' := (d + 1, [], 238, 235, [(2, .inl (bif (spt2 k j (spt1 k j a).1).2 || ((spt1 k j a).2 || m) then (1 : Int32) else 0)), (3, .inl i), (0, .inr (.inr (some 113))), (1, .inl k)], [.inl i, .inr (.inr (some 133)), .inl (2 : Int32), .inl (i + (1 : Int32)), .inr (.inr (some 113))], M2)) AM2 rfl ?_
    refine nv_ald hct AM2 rfl (show nvU.1 133 = 15 + 1 from rfl) (show nvU.2.1 133 = 30 + 1 from rfl) (inb_p hi (by omega)) ?_
    refine nv_cut hct nvU 238 244 9 (S' := (d + 1, [], 238, 244, [(2, .inl (bif (spt2 k j (spt1 k j a).1).2 || ((spt1 k j a).2 || m) then (1 : Int32) else 0)), (3, .inl i), (0, .inr (.inr (some 113))), (1, .inl k)], [.inl (i - (1 : Int32)), .inr (.inr (some 134)), .inl ((2 : Int32) * (a_I M2 133 i.toNatClampNeg)), .inl (i + (1 : Int32)), .inr (.inr (some 113))], M2)) AM2 rfl ?_
    refine nv_ald hct AM2 rfl (show nvU.1 134 = 15 + 1 from rfl) (show nvU.2.1 134 = 30 + 1 from rfl) (inb_p him (by omega)) ?_
    refine nv_cut hct nvU 238 254 10 (S' := (d + 1, [], 238, 254, [(2, .inl (bif (spt2 k j (spt1 k j a).1).2 || ((spt1 k j a).2 || m) then (1 : Int32) else 0)), (3, .inl i), (0, .inr (.inr (some 113))), (1, .inl k)], [.inl i, .inr (.inr (some 134)), .inl (2 : Int32), .inl ((((2 : Int32) * (a_I M2 133 i.toNatClampNeg)) - (a_I M2 134 (i - (1 : Int32)).toNatClampNeg)) - k), .inl (i + (1 : Int32)), .inr (.inr (some 113))], M2)) AM2 rfl ?_
    refine nv_ald hct AM2 rfl (show nvU.1 134 = 15 + 1 from rfl) (show nvU.2.1 134 = 30 + 1 from rfl) (inb_p hi (by omega)) ?_
    refine nv_cut hct nvU 238 263 9 (S' := (d + 1, [], 238, 263, [(2, .inl (bif (spt2 k j (spt1 k j a).1).2 || ((spt1 k j a).2 || m) then (1 : Int32) else 0)), (3, .inl i), (0, .inr (.inr (some 113))), (1, .inl k)], [.inl (i - (1 : Int32)), .inr (.inr (some 133)), .inl ((2 : Int32) * (a_I M2 134 i.toNatClampNeg)), .inl ((((2 : Int32) * (a_I M2 133 i.toNatClampNeg)) - (a_I M2 134 (i - (1 : Int32)).toNatClampNeg)) - k), .inl (i + (1 : Int32)), .inr (.inr (some 113))], M2)) AM2 rfl ?_
    refine nv_ald hct AM2 rfl (show nvU.1 133 = 15 + 1 from rfl) (show nvU.2.1 133 = 30 + 1 from rfl) (inb_p him (by omega)) ?_
    refine nv_cut hct nvU 237 0 7 (S' := (d, [(238, 270, [(2, .inl (bif (spt2 k j (spt1 k j a).1).2 || ((spt1 k j a).2 || m) then (1 : Int32) else 0)), (3, .inl i), (0, .inr (.inr (some 113))), (1, .inl k)], [])], 237, 0, la 0 [.inr (.inr (some 113)), .inl (i + (1 : Int32)), .inl ((((2 : Int32) * (a_I M2 133 i.toNatClampNeg)) - (a_I M2 134 (i - (1 : Int32)).toNatClampNeg)) - k), .inl ((((2 : Int32) * (a_I M2 134 i.toNatClampNeg)) - (a_I M2 133 (i - (1 : Int32)).toNatClampNeg)) + k)], [], M2)) AM2 rfl ?_
    have WM3 : spC (j + 1) ((((2 : Int32) * (a_I M2 133 i.toNatClampNeg)) - (a_I M2 134 (i - (1 : Int32)).toNatClampNeg)) - k) ((((2 : Int32) * (a_I M2 134 i.toNatClampNeg)) - (a_I M2 133 (i - (1 : Int32)).toNatClampNeg)) + k) (spt2 k j (spt1 k j a).1).1 = spt3 k j (spt2 k j (spt1 k j a).1).1 := by
      unfold spt3
      simp only [t0, tm, tp, SM2.1, SM2.2]
    refine nv_calli (r_nar hz (d := d) AM2 SM2 (j := (j + 1)) hip (by omega)) (fun rM3 M3 ⟨EM3, SM3, yM3⟩ => ?_)
    rw [WM3] at SM3 yM3
    subst yM3
    have AM3 : nv_A nvU (tauN u) M3 := eqE_A EM3 AM2
    refine sp_or3 hz AM3 ?_
    have SM3 : SpM M3 (spS k j a) := SM3
    have E3 : eqE fsp M M3 := eqE_tr (eqE_tr EM1 EM2) EM3
    refine nv_cut hct nvU 238 288 7 (S' := (d + 1, [], 238, 288, [(2, .inl (bif (spt3 k j (spt2 k j (spt1 k j a).1).1).2 || ((spt2 k j (spt1 k j a).1).2 || ((spt1 k j a).2 || m)) then (1 : Int32) else 0)), (3, .inl i), (0, .inr (.inr (some 113))), (1, .inl k)], [.inl i, .inr (.inr (some 133))], M3)) AM3 rfl ?_
    refine nv_ald hct AM3 rfl (show nvU.1 133 = 15 + 1 from rfl) (show nvU.2.1 133 = 30 + 1 from rfl) (inb_p hi (by omega)) ?_
    refine nv_cut hct nvU 238 294 6 (S' := (d + 1, [], 238, 294, [(2, .inl (bif (spt3 k j (spt2 k j (spt1 k j a).1).1).2 || ((spt2 k j (spt1 k j a).1).2 || ((spt1 k j a).2 || m)) then (1 : Int32) else 0)), (3, .inl i), (0, .inr (.inr (some 113))), (1, .inl k)], [.inl i, .inr (.inr (some 134)), .inl (a_I M3 133 i.toNatClampNeg)], M3)) AM3 rfl ?_
    refine nv_ald hct AM3 rfl (show nvU.1 134 = 15 + 1 from rfl) (show nvU.2.1 134 = 30 + 1 from rfl) (inb_p hi (by omega)) ?_
    refine nv_cut hct nvU 238 295 3 (S' := (d + 1, [], 238, 295, [(2, .inl (bif (spt3 k j (spt2 k j (spt1 k j a).1).1).2 || ((spt2 k j (spt1 k j a).1).2 || ((spt1 k j a).2 || m)) then (1 : Int32) else 0)), (3, .inl i), (0, .inr (.inr (some 113))), (1, .inl k)], [.inl (a_I M3 134 i.toNatClampNeg), .inl (a_I M3 133 i.toNatClampNeg)], M3)) AM3 rfl ?_
    have hm : ((spt3 k j (spt2 k j (spt1 k j a).1).1).2 || ((spt2 k j (spt1 k j a).1).2 || ((spt1 k j a).2 || m))) = (spH k j a || m) := by unfold spH; rw [Bool.or_assoc, Bool.or_assoc]
    rw [hm]
    have x0 : (a_I M3 133 i.toNatClampNeg).toInt = ((spS k j a).1 j).toInt := by rw [t0, SM3.1]
    have w0 : (a_I M3 134 i.toNatClampNeg).toInt = ((spS k j a).2 j).toInt := by rw [t0, SM3.2]
    have xm : (a_I M3 133 (i - 1).toNatClampNeg).toInt = ((spS k j a).1 (j - 1)).toInt := by rw [tm, SM3.1]
    have wm : (a_I M3 134 (i - 1).toNatClampNeg).toInt = ((spS k j a).2 (j - 1)).toInt := by rw [tm, SM3.2]
    have xp : (a_I M3 133 (i + 1).toNatClampNeg).toInt = ((spS k j a).1 (j + 1)).toInt := by rw [tp, SM3.1]
    have wp : (a_I M3 134 (i + 1).toNatClampNeg).toInt = ((spS k j a).2 (j + 1)).toInt := by rw [tp, SM3.2]
    have sT : spB j (spS k j a) = true → swp k (f + 1) j m a = ((spS k j a, spH k j a || m), false) := fun e => by
      show (bif spB j (spS k j a) then _ else _) = _; rw [e]; rfl
    have sF : spB j (spS k j a) = false → swp k (f + 1) j m a = swp k f (j + 1) (spH k j a || m) (spS k j a) := fun e => by
      show (bif spB j (spS k j a) then _ else _) = _; rw [e]; rfl
    by_cases c1 : ((spS k j a).2 j).toInt < ((spS k j a).1 j).toInt
    · skip
      refine nv_ifc hct true rfl (ccT3 x0 w0 c1) ?_
      refine nv_cut hct nvU 238 337 4 (S' := (d + 1, [], 238, 337, [(2, .inl (bif spH k j a || m then (1 : Int32) else 0)), (3, .inl i), (0, .inr (.inr (some 113))), (1, .inl k)], [.inl (0 : Int32)], M3)) AM3 rfl ?_
      have e9 := sT (by unfold spB spE; rw [decide_eq_true c1]; simp)
      exact nv_iret hct rfl rfl (q0 M3 E3 (by rw [e9]; exact SM3) (by rw [e9]))
    · skip
      refine nv_ifc hct false rfl (ccF3 x0 w0 (by omega)) ?_
      refine nv_cut hct nvU 238 305 8 (S' := (d + 1, [], 238, 305, [(2, .inl (bif spH k j a || m then (1 : Int32) else 0)), (3, .inl i), (0, .inr (.inr (some 113))), (1, .inl k)], [.inl (i - (1 : Int32)), .inr (.inr (some 133))], M3)) AM3 rfl ?_
      refine nv_ald hct AM3 rfl (show nvU.1 133 = 15 + 1 from rfl) (show nvU.2.1 133 = 30 + 1 from rfl) (inb_p him (by omega)) ?_
      refine nv_cut hct nvU 238 313 8 (S' := (d + 1, [], 238, 313, [(2, .inl (bif spH k j a || m then (1 : Int32) else 0)), (3, .inl i), (0, .inr (.inr (some 113))), (1, .inl k)], [.inl (i - (1 : Int32)), .inr (.inr (some 134)), .inl (a_I M3 133 (i - (1 : Int32)).toNatClampNeg)], M3)) AM3 rfl ?_
      refine nv_ald hct AM3 rfl (show nvU.1 134 = 15 + 1 from rfl) (show nvU.2.1 134 = 30 + 1 from rfl) (inb_p him (by omega)) ?_
      refine nv_cut hct nvU 238 314 3 (S' := (d + 1, [], 238, 314, [(2, .inl (bif spH k j a || m then (1 : Int32) else 0)), (3, .inl i), (0, .inr (.inr (some 113))), (1, .inl k)], [.inl (a_I M3 134 (i - (1 : Int32)).toNatClampNeg), .inl (a_I M3 133 (i - (1 : Int32)).toNatClampNeg)], M3)) AM3 rfl ?_
      by_cases c2 : ((spS k j a).2 (j - 1)).toInt < ((spS k j a).1 (j - 1)).toInt
      · skip
        refine nv_ifc hct true rfl (ccT3 xm wm c2) ?_
        refine nv_cut hct nvU 238 337 4 (S' := (d + 1, [], 238, 337, [(2, .inl (bif spH k j a || m then (1 : Int32) else 0)), (3, .inl i), (0, .inr (.inr (some 113))), (1, .inl k)], [.inl (0 : Int32)], M3)) AM3 rfl ?_
        have e9 := sT (by unfold spB spE; rw [decide_eq_true c2]; simp)
        exact nv_iret hct rfl rfl (q0 M3 E3 (by rw [e9]; exact SM3) (by rw [e9]))
      · skip
        refine nv_ifc hct false rfl (ccF3 xm wm (by omega)) ?_
        refine nv_cut hct nvU 238 324 8 (S' := (d + 1, [], 238, 324, [(2, .inl (bif spH k j a || m then (1 : Int32) else 0)), (3, .inl i), (0, .inr (.inr (some 113))), (1, .inl k)], [.inl (i + (1 : Int32)), .inr (.inr (some 133))], M3)) AM3 rfl ?_
        refine nv_ald hct AM3 rfl (show nvU.1 133 = 15 + 1 from rfl) (show nvU.2.1 133 = 30 + 1 from rfl) (inb_p hip (by omega)) ?_
        refine nv_cut hct nvU 238 332 8 (S' := (d + 1, [], 238, 332, [(2, .inl (bif spH k j a || m then (1 : Int32) else 0)), (3, .inl i), (0, .inr (.inr (some 113))), (1, .inl k)], [.inl (i + (1 : Int32)), .inr (.inr (some 134)), .inl (a_I M3 133 (i + (1 : Int32)).toNatClampNeg)], M3)) AM3 rfl ?_
        refine nv_ald hct AM3 rfl (show nvU.1 134 = 15 + 1 from rfl) (show nvU.2.1 134 = 30 + 1 from rfl) (inb_p hip (by omega)) ?_
        refine nv_cut hct nvU 238 333 3 (S' := (d + 1, [], 238, 333, [(2, .inl (bif spH k j a || m then (1 : Int32) else 0)), (3, .inl i), (0, .inr (.inr (some 113))), (1, .inl k)], [.inl (a_I M3 134 (i + (1 : Int32)).toNatClampNeg), .inl (a_I M3 133 (i + (1 : Int32)).toNatClampNeg)], M3)) AM3 rfl ?_
        by_cases c3 : ((spS k j a).2 (j + 1)).toInt < ((spS k j a).1 (j + 1)).toInt
        · skip
          refine nv_ifc hct false rfl (ccF2 xp wp c3) ?_
          refine nv_cut hct nvU 238 337 4 (S' := (d + 1, [], 238, 337, [(2, .inl (bif spH k j a || m then (1 : Int32) else 0)), (3, .inl i), (0, .inr (.inr (some 113))), (1, .inl k)], [.inl (0 : Int32)], M3)) AM3 rfl ?_
          have e9 := sT (by unfold spB spE; rw [decide_eq_true c3]; simp)
          exact nv_iret hct rfl rfl (q0 M3 E3 (by rw [e9]; exact SM3) (by rw [e9]))
        · skip
          refine nv_ifc hct true rfl (ccT2 xp wp (by omega)) ?_
          refine nv_cut hct nvU 238 92 5 (S' := (d + 1, [], 238, 92, [(3, .inl (i + 1)), (2, .inl (bif spH k j a || m then (1 : Int32) else 0)), (0, .inr (.inr (some 113))), (1, .inl k)], [], M3)) AM3 rfl ?_
          have e9 := sF (by unfold spB spE; rw [decide_eq_false c1, decide_eq_false c2, decide_eq_false c3]; rfl)
          rw [e9] at q0 q1
          refine ih (j := j + 1) (by omega) (by omega) hip AM3 (by rw [E3.2.2 u 0 (by unfold fsp; rw [nbF hu1, nbF hu2]; rfl)]; exact h0) SM3 (fun M' e => q0 M' (eqE_tr E3 e)) (fun M' i' e => q1 M' i' (eqE_tr E3 e))
theorem r_spL {cd : Nat → Nat → Option aI} {z : Bool} (hz : ∀ m p i, cd0 z m p = some i → cd m p = some i) {u n : Nat} {nI k : Int32} (hn : nI.toInt = (n : Int)) (hn2 : 2 ≤ n) (hn3 : n ≤ 30) (hu1 : u ≠ 133) (hu2 : u ≠ 134) {d : Nat} : ∀ (F : Nat) {a : spA} {M : aM} {lo : aL}, mu n a < F → nv_A nvU (tauN u) M → a_I M u 0 = nI → SpM M a → lo = [(2, .inl 1), (0, .inr (.inr (some 113))), (1, .inl k)] ∨ (∃ i', lo = [(3, .inl i'), (2, .inl 1), (0, .inr (.inr (some 113))), (1, .inl k)]) → wpS cd (nv_S (tauN u) (d + 1, [], 238, 84, lo, [], M)) (fun r M' => ∃ y, r = some (.inl y) ∧ eqE fsp M M' ∧ SpM M' (spn k n F a).1 ∧ y = (bif (spn k n F a).2 then 1 else 0)) := by
  have hct := hc_of hz
  intro F
  induction F with
  | zero => intro a M lo h; exact absurd h (Nat.not_lt_zero _)
  | succ F ih =>
    intro a M lo hF hA h0 hS hlo
    have main : wpS cd (nv_S (tauN u) (d + 1, [], 238, 92, [(3, .inl 1), (2, .inl (bif false then (1 : Int32) else 0)), (0, .inr (.inr (some 113))), (1, .inl k)], [], M)) (fun r M' => ∃ y, r = some (.inl y) ∧ eqE fsp M M' ∧ SpM M' (spn k n (F + 1) a).1 ∧ y = (bif (spn k n (F + 1) a).2 then 1 else 0)) := by
      refine r_swp hz hn hn3 hu1 hu2 (n - 2) (j := 1) (m := false) (a := a) (by omega) (by omega) rfl hA h0 hS (fun M' e s g => ?_) (fun M' i' e s g => ?_)
      · have e9 : spn k n (F + 1) a = ((swp k (n - 2) 1 false a).1.1, false) := by
          show (bif (swp k (n - 2) 1 false a).2 then _ else _) = _
          rw [g]; rfl
        rw [e9]
        exact ⟨_, rfl, e, s, rfl⟩
      · cases g2 : (swp k (n - 2) 1 false a).1.2 with
        | false =>
          have e9 : spn k n (F + 1) a = ((swp k (n - 2) 1 false a).1.1, true) := by
            show (bif (swp k (n - 2) 1 false a).2 then (bif (swp k (n - 2) 1 false a).1.2 then _ else _) else _) = _
            rw [g, g2]; rfl
          rw [e9]
          have hA' := eqE_A e hA
          show wpS cd (nv_S (tauN u) (d + 1, [], 238, 344, [(3, .inl i'), (2, .inl (0 : Int32)), (0, .inr (.inr (some 113))), (1, .inl k)], [], M')) _
          refine nv_cut hct nvU 238 348 7 (S' := (d + 1, [], 238, 348, [(3, .inl (i')), (2, .inl (0 : Int32)), (0, .inr (.inr (some 113))), (1, .inl k)], [.inl (1 : Int32)], M')) hA' rfl ?_
          exact nv_iret hct rfl rfl ⟨_, rfl, e, s, rfl⟩
        | true =>
          have e9 : spn k n (F + 1) a = spn k n F (swp k (n - 2) 1 false a).1.1 := by
            show (bif (swp k (n - 2) 1 false a).2 then (bif (swp k (n - 2) 1 false a).1.2 then _ else _) else _) = _
            rw [g, g2]; rfl
          rw [e9]
          have hA' := eqE_A e hA
          have hmu : mu n (swp k (n - 2) 1 false a).1.1 < F := by
            rcases (swp_m (n := n) (k := k) (f := n - 2) (i := 1) (m := false) (a := a) (by omega) (by omega)).2 g2 with q | q
            · cases q
            · omega
          show wpS cd (nv_S (tauN u) (d + 1, [], 238, 344, [(3, .inl i'), (2, .inl (1 : Int32)), (0, .inr (.inr (some 113))), (1, .inl k)], [], M')) _
          refine nv_cut hct nvU 238 84 4 (S' := (d + 1, [], 238, 84, [(3, .inl (i')), (2, .inl (1 : Int32)), (0, .inr (.inr (some 113))), (1, .inl k)], [], M')) hA' rfl ?_
          refine wpS_mono (ih hmu hA' (by rw [e.2.2 u 0 (by unfold fsp; rw [nbF hu1, nbF hu2]; rfl)]; exact h0) s (Or.inr ⟨i', rfl⟩)) (fun r M2 h => ?_)
          obtain ⟨y, y1, y2, y3⟩ := h
          exact ⟨y, y1, eqE_tr e y2, y3⟩
    rcases hlo with rfl | ⟨i', rfl⟩
    · skip
      show wpS cd (nv_S (tauN u) (d + 1, [], 238, 84, [(2, .inl (1 : Int32)), (0, .inr (.inr (some 113))), (1, .inl k)], [], M)) _
      refine nv_cut hct nvU 238 92 9 (S' := (d + 1, [], 238, 92, [(3, .inl (1 : Int32)), (2, .inl (0 : Int32)), (0, .inr (.inr (some 113))), (1, .inl k)], [], M)) hA rfl ?_
      exact main
    · skip
      show wpS cd (nv_S (tauN u) (d + 1, [], 238, 84, [(3, .inl (i')), (2, .inl (1 : Int32)), (0, .inr (.inr (some 113))), (1, .inl k)], [], M)) _
      refine nv_cut hct nvU 238 92 9 (S' := (d + 1, [], 238, 92, [(3, .inl (1 : Int32)), (2, .inl (0 : Int32)), (0, .inr (.inr (some 113))), (1, .inl k)], [], M)) hA rfl ?_
      exact main
/-- the spans that the walls tell -/
def sp0 (M : aM) (n : Nat) (w : Int32) : spA := (fun j => if j < n then (if a_I M 135 j = 0 then -w else a_I M 131 j) else a_I M 133 j, fun j => if j < n then (if a_I M 135 j = 0 then w else a_I M 132 j) else a_I M 134 j)
theorem sp0_s {M M' : aM} {j : Nat} {w x y : Int32} (h : SpM M' (sp0 M j w)) (hx : x = if a_I M 135 j = 0 then -w else a_I M 131 j) (hy : y = if a_I M 135 j = 0 then w else a_I M 132 j) : SpM (s_I (s_I M' 133 j x) 134 j y) (sp0 M (j + 1) w) := by
  have q := SpM_1 (j := j) (v := x) (w := y) h
  have e1 : ∀ i, upF (sp0 M j w).1 j x i = (sp0 M (j + 1) w).1 i := fun i => by
    show (if i = j then x else if i < j then _ else _) = if i < j + 1 then _ else _
    by_cases e : i = j
    · subst e; rw [if_pos rfl, if_pos (show i < i + 1 by omega), hx]
    · rw [if_neg e]
      by_cases e2 : i < j
      · rw [if_pos e2, if_pos (show i < j + 1 by omega)]
      · rw [if_neg e2, if_neg (show ¬ i < j + 1 by omega)]
  have e2 : ∀ i, upF (sp0 M j w).2 j y i = (sp0 M (j + 1) w).2 i := fun i => by
    show (if i = j then y else if i < j then _ else _) = if i < j + 1 then _ else _
    by_cases e : i = j
    · subst e; rw [if_pos rfl, if_pos (show i < i + 1 by omega), hy]
    · rw [if_neg e]
      by_cases e2 : i < j
      · rw [if_pos e2, if_pos (show i < j + 1 by omega)]
      · rw [if_neg e2, if_neg (show ¬ i < j + 1 by omega)]
  exact ⟨fun i => (q.1 i).trans (e1 i), fun i => (q.2 i).trans (e2 i)⟩
set_option maxHeartbeats 4000000 in
theorem r_sp0 {cd : Nat → Nat → Option aI} {z : Bool} (hz : ∀ m p i, cd0 z m p = some i → cd m p = some i) {u n : Nat} {nI w k : Int32} (hn : nI.toInt = (n : Int)) (hn3 : n ≤ 30) (hu1 : u ≠ 133) (hu2 : u ≠ 134) {M : aM} {d : Nat} {Q : aQ} : ∀ (f : Nat) {j : Nat} {i : Int32} {Mk : aM} {lo : aL}, j + f = n → i.toInt = (j : Int) → nv_A nvU (tauN u) Mk → a_I Mk u 0 = nI → a_I Mk u 1 = w → eqE fsp M Mk → SpM Mk (sp0 M j w) → (∀ M' i', eqE fsp M M' → SpM M' (sp0 M n w) → wpS cd (nv_S (tauN u) (d + 1, [], 238, 82, [(2, .inl i'), (0, .inr (.inr (some 113))), (1, .inl k)], [], M')) Q) → wpS cd (nv_S (tauN u) (d + 1, [], 238, 2, [(2, .inl i), (0, .inr (.inr (some 113))), (1, .inl k)], [], Mk)) Q := by
  have hct := hc_of hz
  have hU : nv_s (tauN u) 137 = u := by rw [show (137 : Nat) = 137 + 0 from rfl, nv_hi (by omega), Nat.add_zero]
  intro f
  induction f with
  | zero =>
    intro j i Mk lo h2 hi hA h0 h1 hE hS q1
    have hin : (a_I Mk (nv_s (tauN u) 137) 0).toInt = (n : Int) := by rw [hU, h0]; exact hn
    refine nv_cut hct nvU 238 10 7 (S' := (d + 1, [], 238, 10, [(2, .inl i), (0, .inr (.inr (some 113))), (1, .inl k)], [.inl (a_I Mk (nv_s (tauN u) 137) 0), .inl i], Mk)) hA rfl ?_
    refine nv_ifc hct true rfl (ccT4 hi hin (by omega)) ?_
    exact q1 Mk i hE (by rw [show n = j by omega]; exact hS)
  | succ f ih =>
    intro j i Mk lo h2 hi hA h0 h1 hE hS q1
    have hin : (a_I Mk (nv_s (tauN u) 137) 0).toInt = (n : Int) := by rw [hU, h0]; exact hn
    have t0 := tnc hi
    have e5 : a_I Mk 135 i.toNatClampNeg = a_I M 135 j := by rw [t0]; exact hE.2.2 135 j rfl
    have e1 : a_I Mk 131 i.toNatClampNeg = a_I M 131 j := by rw [t0]; exact hE.2.2 131 j rfl
    have e2 : a_I Mk 132 i.toNatClampNeg = a_I M 132 j := by rw [t0]; exact hE.2.2 132 j rfl
    have hip : (i + 1).toInt = ((j + 1 : Nat) : Int) := by rw [add_p hi (by omega) (by omega)]; omega
    have fin : ∀ x y, x = (if a_I M 135 j = 0 then -w else a_I M 131 j) → y = (if a_I M 135 j = 0 then w else a_I M 132 j) → wpS cd (nv_S (tauN u) (d + 1, [], 238, 2, [(2, .inl (i + 1)), (0, .inr (.inr (some 113))), (1, .inl k)], [], (s_I (s_I Mk 133 i.toNatClampNeg x) 134 i.toNatClampNeg y))) Q := fun x y hx hy => by
      rw [t0]
      refine ih (lo := lo) (j := j + 1) (by omega) hip hA ?_ ?_ (eqE_tr hE eqE_sp) (sp0_s hS hx hy) q1
      · rw [aI_nk (fun q => hu2 q.1), aI_nk (fun q => hu1 q.1)]; exact h0
      · rw [aI_nk (fun q => hu2 q.1), aI_nk (fun q => hu1 q.1)]; exact h1
    refine nv_cut hct nvU 238 10 7 (S' := (d + 1, [], 238, 10, [(2, .inl i), (0, .inr (.inr (some 113))), (1, .inl k)], [.inl (a_I Mk (nv_s (tauN u) 137) 0), .inl i], Mk)) hA rfl ?_
    refine nv_ifc hct false rfl (ccF4 hi hin (by omega)) ?_
    refine nv_cut hct nvU 238 23 9 (S' := (d + 1, [], 238, 23, [(2, .inl i), (0, .inr (.inr (some 113))), (1, .inl k)], [.inl i, .inr (.inr (some 135)), .inl i, .inr (.inr (some 133))], Mk)) hA rfl ?_
    refine nv_ald hct hA rfl (show nvU.1 135 = 17 + 1 from rfl) (show nvU.2.1 135 = 30 + 1 from rfl) (inb_p hi (by omega)) ?_
    by_cases c : a_I M 135 j = 0
    · skip
      refine nv_if hct true rfl (zcT1 (x := a_I Mk 135 i.toNatClampNeg) (congrArg Int32.toInt e5) (by rw [c]; rfl)) ?_
      refine nv_cut hct nvU 238 44 7 (S' := (d + 1, [], 238, 44, [(2, .inl i), (0, .inr (.inr (some 113))), (1, .inl k)], [.inl (-(a_I Mk (nv_s (tauN u) 137) 1)), .inl i, .inr (.inr (some 133))], Mk)) hA rfl ?_
      refine nv_ast hct hA rfl (show nvU.1 133 = 15 + 1 from rfl) (show nvU.2.1 133 = 30 + 1 from rfl) (inb_p hi (by omega)) ?_
      refine nv_cut hct nvU 238 55 9 (S' := (d + 1, [], 238, 55, [(2, .inl i), (0, .inr (.inr (some 113))), (1, .inl k)], [.inl i, .inr (.inr (some 135)), .inl i, .inr (.inr (some 134))], (s_I Mk 133 i.toNatClampNeg (-(a_I Mk (nv_s (tauN u) 137) 1))))) (nv_As hA) rfl ?_
      refine nv_ald hct (nv_As hA) rfl (show nvU.1 135 = 17 + 1 from rfl) (show nvU.2.1 135 = 30 + 1 from rfl) (inb_p hi (by omega)) ?_
      refine nv_if hct true rfl (zcT1 (x := a_I Mk 135 i.toNatClampNeg) (congrArg Int32.toInt e5) (by rw [c]; rfl)) ?_
      refine nv_cut hct nvU 238 75 6 (S' := (d + 1, [], 238, 75, [(2, .inl i), (0, .inr (.inr (some 113))), (1, .inl k)], [.inl (a_I (s_I Mk 133 i.toNatClampNeg (-(a_I Mk (nv_s (tauN u) 137) 1))) (nv_s (tauN u) 137) 1), .inl i, .inr (.inr (some 134))], (s_I Mk 133 i.toNatClampNeg (-(a_I Mk (nv_s (tauN u) 137) 1))))) (nv_As hA) rfl ?_
      refine nv_ast hct (nv_As hA) rfl (show nvU.1 134 = 15 + 1 from rfl) (show nvU.2.1 134 = 30 + 1 from rfl) (inb_p hi (by omega)) ?_
      refine nv_cut hct nvU 238 2 5 (S' := (d + 1, [], 238, 2, [(2, .inl (i + 1)), (0, .inr (.inr (some 113))), (1, .inl k)], [], (s_I (s_I Mk 133 i.toNatClampNeg (-(a_I Mk (nv_s (tauN u) 137) 1))) 134 i.toNatClampNeg (a_I (s_I Mk 133 i.toNatClampNeg (-(a_I Mk (nv_s (tauN u) 137) 1))) (nv_s (tauN u) 137) 1)))) (nv_As (nv_As hA)) rfl ?_
      refine fin _ _ ?_ ?_
      · rw [if_pos c, hU, h1]
      · rw [if_pos c, hU, aI_nk (fun q => hu1 q.1), h1]
    · skip
      have c9 : (a_I M 135 j).toInt ≠ 0 := fun e => c (Int32.toInt_inj.mp e)
      refine nv_if hct false rfl (zcF1 (x := a_I Mk 135 i.toNatClampNeg) (congrArg Int32.toInt e5) c9) ?_
      refine nv_cut hct nvU 238 32 6 (S' := (d + 1, [], 238, 32, [(2, .inl i), (0, .inr (.inr (some 113))), (1, .inl k)], [.inl i, .inr (.inr (some 131)), .inl i, .inr (.inr (some 133))], Mk)) hA rfl ?_
      refine nv_ald hct hA rfl (show nvU.1 131 = 15 + 1 from rfl) (show nvU.2.1 131 = 30 + 1 from rfl) (inb_p hi (by omega)) ?_
      refine nv_cut hct nvU 238 44 4 (S' := (d + 1, [], 238, 44, [(2, .inl i), (0, .inr (.inr (some 113))), (1, .inl k)], [.inl (a_I Mk 131 i.toNatClampNeg), .inl i, .inr (.inr (some 133))], Mk)) hA rfl ?_
      refine nv_ast hct hA rfl (show nvU.1 133 = 15 + 1 from rfl) (show nvU.2.1 133 = 30 + 1 from rfl) (inb_p hi (by omega)) ?_
      refine nv_cut hct nvU 238 55 9 (S' := (d + 1, [], 238, 55, [(2, .inl i), (0, .inr (.inr (some 113))), (1, .inl k)], [.inl i, .inr (.inr (some 135)), .inl i, .inr (.inr (some 134))], (s_I Mk 133 i.toNatClampNeg (a_I Mk 131 i.toNatClampNeg)))) (nv_As hA) rfl ?_
      refine nv_ald hct (nv_As hA) rfl (show nvU.1 135 = 17 + 1 from rfl) (show nvU.2.1 135 = 30 + 1 from rfl) (inb_p hi (by omega)) ?_
      refine nv_if hct false rfl (zcF1 (x := a_I Mk 135 i.toNatClampNeg) (congrArg Int32.toInt e5) c9) ?_
      refine nv_cut hct nvU 238 64 6 (S' := (d + 1, [], 238, 64, [(2, .inl i), (0, .inr (.inr (some 113))), (1, .inl k)], [.inl i, .inr (.inr (some 132)), .inl i, .inr (.inr (some 134))], (s_I Mk 133 i.toNatClampNeg (a_I Mk 131 i.toNatClampNeg)))) (nv_As hA) rfl ?_
      refine nv_ald hct (nv_As hA) rfl (show nvU.1 132 = 15 + 1 from rfl) (show nvU.2.1 132 = 30 + 1 from rfl) (inb_p hi (by omega)) ?_
      refine nv_cut hct nvU 238 75 4 (S' := (d + 1, [], 238, 75, [(2, .inl i), (0, .inr (.inr (some 113))), (1, .inl k)], [.inl (a_I Mk 132 i.toNatClampNeg), .inl i, .inr (.inr (some 134))], (s_I Mk 133 i.toNatClampNeg (a_I Mk 131 i.toNatClampNeg)))) (nv_As hA) rfl ?_
      refine nv_ast hct (nv_As hA) rfl (show nvU.1 134 = 15 + 1 from rfl) (show nvU.2.1 134 = 30 + 1 from rfl) (inb_p hi (by omega)) ?_
      refine nv_cut hct nvU 238 2 5 (S' := (d + 1, [], 238, 2, [(2, .inl (i + 1)), (0, .inr (.inr (some 113))), (1, .inl k)], [], (s_I (s_I Mk 133 i.toNatClampNeg (a_I Mk 131 i.toNatClampNeg)) 134 i.toNatClampNeg (a_I Mk 132 i.toNatClampNeg)))) (nv_As (nv_As hA)) rfl ?_
      refine fin _ _ ?_ ?_
      · rw [if_neg c, e1]
      · rw [if_neg c, e2]
theorem r_spans {cd : Nat → Nat → Option aI} {z : Bool} (hz : ∀ m p i, cd0 z m p = some i → cd m p = some i) {u n : Nat} {M : aM} {w k : Int32} (hA : nv_A nvU (tauN u) M) (hn : (a_I M u 0).toInt = (n : Int)) (hn2 : 2 ≤ n) (hn3 : n ≤ 30) (hw : a_I M u 1 = w) (hu1 : u ≠ 133) (hu2 : u ≠ 134) {d : Nat} : wpS cd (d + 1, [], 238, 0, nv_l (tauN u) (la 0 [.inr (.inr (some 113)), .inl k]), [], M) (fun r M' => ∃ y, r = some (.inl y) ∧ eqE fsp M M' ∧ ∃ F, (∀ F', F ≤ F' → spn k n F' (sp0 M n w) = spn k n F (sp0 M n w)) ∧ SpM M' (spn k n F (sp0 M n w)).1 ∧ y = (bif (spn k n F (sp0 M n w)).2 then 1 else 0)) := by
  show wpS cd (nv_S (tauN u) (d + 1, [], 238, 0, la 0 [.inr (.inr (some 113)), .inl k], [], M)) _
  have hct := hc_of hz
  refine nv_cut hct nvU 238 2 5 (S' := (d + 1, [], 238, 2, [(2, .inl (0 : Int32)), (0, .inr (.inr (some 113))), (1, .inl k)], [], M)) hA rfl ?_
  refine r_sp0 hz (M := M) (lo := []) hn hn3 hu1 hu2 n (j := 0) (by omega) rfl hA rfl hw eqE_rf ⟨fun j => rfl, fun j => rfl⟩ (fun M1 i' E1 S1 => ?_)
  have A1 := eqE_A E1 hA
  refine nv_cut hct nvU 238 84 5 (S' := (d + 1, [], 238, 84, [(2, .inl (1 : Int32)), (0, .inr (.inr (some 113))), (1, .inl k)], [], M1)) A1 rfl ?_
  refine wpS_mono (r_spL hz hn hn2 hn3 hu1 hu2 (mu n (sp0 M n w) + 1) (Nat.lt_succ_self _) A1 (E1.2.2 u 0 (by unfold fsp; rw [nbF hu1, nbF hu2]; rfl)) S1 (Or.inl rfl)) (fun r M2 h => ?_)
  obtain ⟨y, y1, y2, y3, y4⟩ := h
  exact ⟨y, y1, eqE_tr E1 y2, _, spn_cv hn2 (Nat.lt_succ_self _), y3, y4⟩

/-! The abstract machine: values, memory, instructions, runs. An object is a number (the order in which it was made); ad tells where it lies. -/
abbrev aV : Type := Int32 ⊕ (Int64 ⊕ Option Nat)
abbrev aM : Type := Nat × Nat × Nat × (Nat → Nat) × (Nat → Nat) × (Nat → Nat → Int32) × (Nat → Nat → Int64) × (Nat → Nat → Option Nat)
abbrev aL : Type := List (Nat × aV)
abbrev aR : Type := (Nat × aL × List aV × aM) ⊕ ((Nat × List aV × List aV) ⊕ Option aV)
abbrev aI : Type := aL → List aV → aM → Option aR
def a_n (M : aM) : Nat := M.1
def a_z (M : aM) : Nat := M.2.1
def a_c (M : aM) : Nat := M.2.2.1
def a_K (M : aM) : Nat → Nat := M.2.2.2.1
def a_N (M : aM) : Nat → Nat := M.2.2.2.2.1
def a_I (M : aM) : Nat → Nat → Int32 := M.2.2.2.2.2.1
def a_J (M : aM) : Nat → Nat → Int64 := M.2.2.2.2.2.2.1
def a_P (M : aM) : Nat → Nat → Option Nat := M.2.2.2.2.2.2.2
/-- more objects, cells, slots -/
def mle (M M' : aM) : Prop := a_n M ≤ a_n M' ∧ a_c M ≤ a_c M' ∧ a_z M ≤ a_z M'
theorem mle_rf {M : aM} : mle M M := ⟨Nat.le_refl _, Nat.le_refl _, Nat.le_refl _⟩
theorem mle_tr {a b c : aM} (h : mle a b) (g : mle b c) : mle a c := ⟨Nat.le_trans h.1 g.1, Nat.le_trans h.2.1 g.2.1, Nat.le_trans h.2.2 g.2.2⟩
def up2 {α : Type} (f : Nat → Nat → α) (a k : Nat) (v : α) : Nat → Nat → α := fun b j => bif Nat.beq b a then (bif Nat.beq j k then v else f b j) else f b j
def up1 {α : Type} (f : Nat → α) (a : Nat) (v : α) : Nat → α := fun b => bif Nat.beq b a then v else f b
def s_I (M : aM) (a k : Nat) (v : Int32) : aM := (M.1, M.2.1, M.2.2.1, M.2.2.2.1, M.2.2.2.2.1, up2 M.2.2.2.2.2.1 a k v, M.2.2.2.2.2.2.1, M.2.2.2.2.2.2.2)
def s_J (M : aM) (a k : Nat) (v : Int64) : aM := (M.1, M.2.1, M.2.2.1, M.2.2.2.1, M.2.2.2.2.1, M.2.2.2.2.2.1, up2 M.2.2.2.2.2.2.1 a k v, M.2.2.2.2.2.2.2)
def s_P (M : aM) (a k : Nat) (v : Option Nat) : aM := (M.1, M.2.1, M.2.2.1, M.2.2.2.1, M.2.2.2.2.1, M.2.2.2.2.2.1, M.2.2.2.2.2.2.1, up2 M.2.2.2.2.2.2.2 a k v)
/-- a new cell of kind c, z slots, length n; all its slots are as a new cell's -/
def a_new (M : aM) (c z n : Nat) : aM := (M.1 + 1, M.2.1 + z, M.2.2.1 + 1, up1 M.2.2.2.1 M.1 c, up1 M.2.2.2.2.1 M.1 n, up1 M.2.2.2.2.2.1 M.1 (fun _ => 0), up1 M.2.2.2.2.2.2.1 M.1 (fun _ => 0), up1 M.2.2.2.2.2.2.2 M.1 (fun _ => none))
abbrev aSB : Nat := 1000000000
theorem nbF {a b : Nat} (h : ¬ a = b) : Nat.beq a b = false := Bool.eq_false_iff.mpr (fun q => h (Nat.eq_of_beq_eq_true q))
theorem nbT {a b : Nat} (h : Nat.beq a b = true) : a = b := Nat.eq_of_beq_eq_true h
theorem up2_eq {α : Type} {f : Nat → Nat → α} {a k : Nat} {v : α} {b j : Nat} : up2 f a k v b j = if b = a ∧ j = k then v else f b j := by
  unfold up2
  by_cases h : b = a
  · subst h
    by_cases g : j = k
    · subst g; simp
    · simp [g, nbF g]
  · simp [h, nbF h]
theorem up1_eq {α : Type} {f : Nat → α} {a : Nat} {v : α} {b : Nat} : up1 f a v b = if b = a then v else f b := by
  unfold up1
  by_cases h : b = a
  · subst h; simp
  · simp [h, nbF h]
theorem up2_row {α : Type} {f : Nat → Nat → α} {a k : Nat} {v : α} {b : Nat} (h : b ≠ a) : up2 f a k v b = f b := funext fun j => by rw [up2_eq, if_neg (fun q => h q.1)]
theorem up2_own {f : Nat → Nat → Int32} {a k : Nat} {v : Int32} : up2 f a k v a = upd (f a) k v := funext fun j => by
  rw [up2_eq]
  unfold upd
  by_cases g : j = k <;> simp [g]
theorem up2_ownV {α : Type} {f : Nat → Nat → α} {a k : Nat} {v : α} : up2 f a k v a = va_up (f a) k v := funext fun j => by
  rw [up2_eq]
  unfold va_up
  by_cases g : j = k <;> simp [g]
/-- how a value stands in the machine -/
def tv (ad : Nat → Nat) (v : aV) : Value := match v with
  | .inl x => .int x
  | .inr (.inl x) => .long x
  | .inr (.inr r) => va_rf (r.map ad)
def tq (ad : Nat → Nat) (q : Nat × aV) : Nat × Value := (q.1, tv ad q.2)
def isL (v : aV) : Bool := match v with
  | .inr (.inl _) => true
  | _ => false
def cat (v : aV) : Nat := bif isL v then 2 else 1
theorem tv_cat (ad : Nat → Nat) (v : aV) : (tv ad v).category = cat v := by
  rcases v with x | x | r
  · rfl
  · rfl
  · rcases r with _ | a <;> rfl
def vok (n : Nat) (v : aV) : Prop := ∀ j : Nat, v = .inr (.inr (some j)) → j < n ∨ aSB ≤ j
def agr (n : Nat) (ad ad' : Nat → Nat) : Prop := ∀ j : Nat, (j < n ∨ aSB ≤ j) → ad' j = ad j
theorem tv_agr {n : Nat} {ad ad' : Nat → Nat} (h : agr n ad ad') {v : aV} (hv : vok n v) : tv ad' v = tv ad v := by
  rcases v with x | x | r
  · rfl
  · rfl
  · rcases r with _ | a
    · rfl
    · show va_rf (some (ad' a)) = va_rf (some (ad a))
      rw [h a (hv a rfl)]
theorem vok_up {n n' : Nat} (h : n ≤ n') {v : aV} (hv : vok n v) : vok n' v := fun j e => (hv j e).elim (fun q => Or.inl (by omega)) Or.inr
theorem agr_tr {n n' : Nat} (h : n ≤ n') {a b c : Nat → Nat} (h1 : agr n a b) (h2 : agr n' b c) : agr n a c := fun j q => (h2 j (q.elim (fun z => Or.inl (by omega)) Or.inr)).trans (h1 j q)
theorem agr_rf {n : Nat} {a : Nat → Nat} : agr n a a := fun _ _ => rfl
/-- what stands in slot k of object i -/
def vlt (ad : Nat → Nat) (M : aM) (i k t : Nat) : Value := match t with
  | 0 => .int (a_I M i k)
  | 1 => .long (a_J M i k)
  | _ => va_rf ((a_P M i k).map ad)
def fsv (ad : Nat → Nat) (M : aM) (i : Nat) : Nat → List Nat → List Value
  | _, [] => []
  | k, t :: ts => vlt ad M i k t :: fsv ad M i (k + 1) ts
abbrev nC : Nat := 14
/-- the arrays' kinds, from nC on -/
def atb : List FieldType := [.byte, .int, .long, .boolean, .object "DeepHole$Bit", .array .int]
def tyK (cy : Nat → ClassId) : List (ClassId × FieldType) := [(cy 14, .byte), (cy 15, .int), (cy 16, .long), (cy 17, .boolean), (cy 18, .object "DeepHole$Bit"), (cy 19, .array .int)]
def wE (cy : Nat → ClassId) (ad : Nat → Nat) (M : aM) (i : Nat) : va_E :=
  if a_K M i < 14 then .inr (a_K M i, fsv ad M i 0 (lyt (a_K M i)))
  else if a_K M i = 16 then .inl (cy 16, a_N M i, .inr (.inl (a_J M i)))
  else if a_K M i < 18 then .inl (cy (a_K M i), a_N M i, .inl (a_I M i))
  else .inl (cy (a_K M i), a_N M i, .inr (.inr (.inr (.inr (fun j => (a_P M i j).map ad)))))
def wl (cy : Nat → ClassId) (ad : Nat → Nat) (M : aM) : va_W := (List.range (a_n M)).map (fun i => (ad i, wE cy ad M i))
def wf (M : aM) : Prop := a_n M < aSB ∧ ∀ i k j : Nat, a_P M i k = some j → j < a_n M ∨ aSB ≤ j
theorem wl_at {cy : Nat → ClassId} {ad : Nat → Nat} {M : aM} {i : Nat} (h : i < a_n M) : (wl cy ad M)[i]? = some (ad i, wE cy ad M i) := by
  unfold wl
  rw [List.getElem?_map, List.getElem?_range h]
  rfl
theorem fsv_len {ad : Nat → Nat} {M : aM} {i : Nat} : ∀ (ts : List Nat) (k : Nat), (fsv ad M i k ts).length = ts.length
  | [], _ => rfl
  | _ :: ts, k => by show (fsv ad M i (k + 1) ts).length + 1 = ts.length + 1; rw [fsv_len ts (k + 1)]
theorem fsv_at {ad : Nat → Nat} {M : aM} {i : Nat} : ∀ (ts : List Nat) (k j t : Nat), ts[j]? = some t → (fsv ad M i k ts)[j]? = some (vlt ad M i (k + j) t)
  | [], _, _, _, h => by simp at h
  | t0 :: ts, k, 0, t, h => by
    simp at h
    subst h
    rfl
  | t0 :: ts, k, j + 1, t, h => by
    show (fsv ad M i (k + 1) ts)[j]? = _
    rw [fsv_at ts (k + 1) j t (by simpa using h)]
    rw [show k + 1 + j = k + (j + 1) by omega]
theorem fsv_cong {ad ad' : Nat → Nat} {M M' : aM} {i : Nat} (h : ∀ k t, vlt ad M i k t = vlt ad' M' i k t) : ∀ (ts : List Nat) (k : Nat), fsv ad M i k ts = fsv ad' M' i k ts
  | [], _ => rfl
  | t :: ts, k => by show _ :: _ = _ :: _; rw [h k t, fsv_cong h ts (k + 1)]
theorem fsv_set {ad : Nat → Nat} {M M' : aM} {i s : Nat} (t : Nat) : ∀ (ts : List Nat) (k : Nat), k ≤ s → ts[s - k]? = some t → (∀ k' t', k' ≠ s → vlt ad M' i k' t' = vlt ad M i k' t') → (fsv ad M i k ts).set (s - k) (vlt ad M' i s t) = fsv ad M' i k ts
  | [], _, _, h, _ => by simp at h
  | t0 :: ts, k, hk, h, hc => by
    by_cases e : s = k
    · subst e
      rw [Nat.sub_self] at h ⊢
      simp at h
      subst h
      show _ :: _ = _ :: _
      congr 1
      have : ∀ (ts : List Nat) (k : Nat), s < k → fsv ad M i k ts = fsv ad M' i k ts := by
        intro ts
        induction ts with
        | nil => intro k _; rfl
        | cons t1 ts ih => intro k hk; show _ :: _ = _ :: _; rw [hc k t1 (by omega), ih (k + 1) (by omega)]
      exact this ts (s + 1) (by omega)
    · obtain ⟨d, hd⟩ : ∃ d, s - k = d + 1 := ⟨s - k - 1, by omega⟩
      have hd2 : s - (k + 1) = d := by omega
      rw [hd] at h ⊢
      show _ :: _ = _ :: _
      rw [hc k t0 (by omega)]
      congr 1
      rw [← hd2]
      exact fsv_set t ts (k + 1) (by omega) (by rw [hd2]; simpa using h) hc
/-- rows that are alike give the same entry -/
theorem wE_cong {cy : Nat → ClassId} {ad ad' : Nat → Nat} {M M' : aM} {i : Nat} (hK : a_K M' i = a_K M i) (hN : a_N M' i = a_N M i) (hI : a_I M' i = a_I M i) (hJ : a_J M' i = a_J M i) (hP : ∀ j, (a_P M' i j).map ad' = (a_P M i j).map ad) : wE cy ad' M' i = wE cy ad M i := by
  unfold wE
  rw [hK, hN, hI, hJ]
  have hf : fsv ad' M' i 0 (lyt (a_K M i)) = fsv ad M i 0 (lyt (a_K M i)) := fsv_cong (fun k t => by
    unfold vlt
    rw [hI, hJ, hP k]) _ _
  rw [hf, show (fun j => (a_P M' i j).map ad') = (fun j => (a_P M i j).map ad) from funext hP]
/-- one entry changes -/
theorem wl_set {cy : Nat → ClassId} {ad : Nat → Nat} {M M' : aM} {i : Nat} (hn : a_n M' = a_n M) (hi : i < a_n M) (ho : ∀ b, b ≠ i → wE cy ad M' b = wE cy ad M b) : (wl cy ad M).set i (ad i, wE cy ad M' i) = wl cy ad M' := by
  apply List.ext_getElem?
  intro k
  rw [List.getElem?_set]
  unfold wl
  rw [hn]
  by_cases e : i = k
  · subst e
    simp [hi]
  · rw [if_neg e, List.getElem?_map, List.getElem?_map]
    cases hk : (List.range (a_n M))[k]? with
    | none => rfl
    | some x =>
      have : x = k := by
        obtain ⟨h1, h2⟩ := List.getElem?_eq_some_iff.mp hk
        rw [List.getElem_range] at h2
        exact h2.symm
      subst this
      simp [ho x (fun q => e q.symm)]
/-- one entry comes -/
theorem wl_push {cy : Nat → ClassId} {ad ad' : Nat → Nat} {M M' : aM} (hn : a_n M' = a_n M + 1) (ha : ∀ i, i < a_n M → ad' i = ad i) (ho : ∀ b, b < a_n M → wE cy ad' M' b = wE cy ad M b) : wl cy ad M ++ [(ad' (a_n M), wE cy ad' M' (a_n M))] = wl cy ad' M' := by
  unfold wl
  rw [hn, List.range_succ, List.map_append]
  congr 1
  apply List.map_congr_left
  intro i hi
  have := List.mem_range.mp hi
  rw [ha i this, ho i this]

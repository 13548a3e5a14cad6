/-! The spans, pure: what lies beyond the rod doesn't matter; bounds; how many rounds. -/
def AG (n : Nat) (a a' : spA) : Prop := ∀ j, j < n → a.1 j = a'.1 j ∧ a.2 j = a'.2 j
theorem spC_ag {n j : Nat} {l h : Int32} {a a' : spA} (hj : j < n) (g : AG n a a') : AG n (spC j l h a).1 (spC j l h a').1 ∧ (spC j l h a).2 = (spC j l h a').2 := by
  obtain ⟨e1, e2⟩ := g j hj
  unfold spC
  rw [← e1, ← e2]
  by_cases c : l.toInt ≤ (a.1 j).toInt ∧ (a.2 j).toInt ≤ h.toInt
  · rw [if_pos c, if_pos c]; exact ⟨g, rfl⟩
  · rw [if_neg c, if_neg c]
    refine ⟨fun i hi => ?_, rfl⟩
    obtain ⟨q1, q2⟩ := g i hi
    simp only [upF]
    by_cases e : i = j
    · rw [if_pos e, if_pos e, if_pos e, if_pos e]; exact ⟨rfl, rfl⟩
    · rw [if_neg e, if_neg e, if_neg e, if_neg e]; exact ⟨q1, q2⟩
theorem spt1_ag {n i : Nat} {k : Int32} {a a' : spA} (h1 : 1 ≤ i) (h2 : i + 1 < n) (g : AG n a a') : AG n (spt1 k i a).1 (spt1 k i a').1 ∧ (spt1 k i a).2 = (spt1 k i a').2 := by
  unfold spt1
  rw [← (g (i - 1) (by omega)).1, ← (g (i - 1) (by omega)).2, ← (g (i + 1) h2).1, ← (g (i + 1) h2).2]
  exact spC_ag (by omega) g
theorem spt2_ag {n i : Nat} {k : Int32} {a a' : spA} (h1 : 1 ≤ i) (h2 : i + 1 < n) (g : AG n a a') : AG n (spt2 k i a).1 (spt2 k i a').1 ∧ (spt2 k i a).2 = (spt2 k i a').2 := by
  unfold spt2
  rw [← (g i (by omega)).1, ← (g i (by omega)).2, ← (g (i + 1) h2).1, ← (g (i + 1) h2).2]
  exact spC_ag (by omega) g
theorem spt3_ag {n i : Nat} {k : Int32} {a a' : spA} (h1 : 1 ≤ i) (h2 : i + 1 < n) (g : AG n a a') : AG n (spt3 k i a).1 (spt3 k i a').1 ∧ (spt3 k i a).2 = (spt3 k i a').2 := by
  unfold spt3
  rw [← (g i (by omega)).1, ← (g i (by omega)).2, ← (g (i - 1) (by omega)).1, ← (g (i - 1) (by omega)).2]
  exact spC_ag (by omega) g
theorem spS_ag {n i : Nat} {k : Int32} {a a' : spA} (h1 : 1 ≤ i) (h2 : i + 1 < n) (g : AG n a a') : AG n (spS k i a) (spS k i a') ∧ spH k i a = spH k i a' := by
  obtain ⟨g1, e1⟩ := spt1_ag (k := k) h1 h2 g
  obtain ⟨g2, e2⟩ := spt2_ag (k := k) h1 h2 g1
  obtain ⟨g3, e3⟩ := spt3_ag (k := k) h1 h2 g2
  refine ⟨g3, ?_⟩
  unfold spH
  rw [e1, e2, e3]
theorem spB_ag {n i : Nat} {a a' : spA} (h1 : 1 ≤ i) (h2 : i + 1 < n) (g : AG n a a') : spB i a = spB i a' := by
  unfold spB spE
  rw [(g i (by omega)).1, (g i (by omega)).2, (g (i - 1) (by omega)).1, (g (i - 1) (by omega)).2, (g (i + 1) h2).1, (g (i + 1) h2).2]
theorem swp_ag {n : Nat} {k : Int32} : ∀ {f i : Nat} {m : Bool} {a a' : spA}, 1 ≤ i → i + f < n → AG n a a' → AG n (swp k f i m a).1.1 (swp k f i m a').1.1 ∧ (swp k f i m a).1.2 = (swp k f i m a').1.2 ∧ (swp k f i m a).2 = (swp k f i m a').2
  | 0, _, _, _, _, _, _, g => ⟨g, rfl, rfl⟩
  | f + 1, i, m, a, a', h1, h2, g => by
    obtain ⟨g1, e1⟩ := spS_ag (k := k) h1 (by omega) g
    have e2 := spB_ag (i := i) h1 (by omega) g1
    unfold swp
    rw [← e2, ← e1]
    cases hb : spB i (spS k i a) with
    | true =>
      show AG n (spS k i a) (spS k i a') ∧ (spH k i a || m) = (spH k i a || m) ∧ false = false
      exact ⟨g1, rfl, rfl⟩
    | false =>
      show AG n (swp k f (i + 1) (spH k i a || m) (spS k i a)).1.1 (swp k f (i + 1) (spH k i a || m) (spS k i a')).1.1 ∧ (swp k f (i + 1) (spH k i a || m) (spS k i a)).1.2 = (swp k f (i + 1) (spH k i a || m) (spS k i a')).1.2 ∧ (swp k f (i + 1) (spH k i a || m) (spS k i a)).2 = (swp k f (i + 1) (spH k i a || m) (spS k i a')).2
      exact swp_ag (by omega) (by omega) g1
theorem spn_ag {n : Nat} {k : Int32} (hn : 2 ≤ n) : ∀ {F : Nat} {a a' : spA}, AG n a a' → AG n (spn k n F a).1 (spn k n F a').1 ∧ (spn k n F a).2 = (spn k n F a').2
  | 0, _, _, g => ⟨g, rfl⟩
  | F + 1, a, a', g => by
    obtain ⟨g1, e1, e2⟩ := swp_ag (n := n) (k := k) (f := n - 2) (i := 1) (m := false) (by omega) (by omega) g
    unfold spn
    rw [← e2, ← e1]
    cases (swp k (n - 2) 1 false a).2 with
    | false =>
      show AG n (swp k (n - 2) 1 false a).1.1 (swp k (n - 2) 1 false a').1.1 ∧ false = false
      exact ⟨g1, rfl⟩
    | true =>
      cases (swp k (n - 2) 1 false a).1.2 with
      | false =>
        show AG n (swp k (n - 2) 1 false a).1.1 (swp k (n - 2) 1 false a').1.1 ∧ true = true
        exact ⟨g1, rfl⟩
      | true =>
        show AG n (spn k n F (swp k (n - 2) 1 false a).1.1).1 (spn k n F (swp k (n - 2) 1 false a').1.1).1 ∧ (spn k n F (swp k (n - 2) 1 false a).1.1).2 = (spn k n F (swp k (n - 2) 1 false a').1.1).2
        exact spn_ag hn g1
theorem wdI_ag {a a' : spA} {n : Nat} (g : AG n a a') : ∀ {f i b : Nat}, b < n → i + f ≤ n → wdI a f i b = wdI a' f i b
  | 0, _, _, _, _ => rfl
  | f + 1, i, b, h, h2 => by
    unfold wdI
    rw [(g b h).1, (g b h).2, (g i (by omega)).1, (g i (by omega)).2]
    refine wdI_ag g ?_ (by omega)
    split <;> omega
/-- no span is empty, none leaves -999 .. 999 -/
def BD (n : Nat) (a : spA) : Prop := ∀ j, j < n → -999 ≤ (a.1 j).toInt ∧ (a.1 j).toInt ≤ (a.2 j).toInt ∧ (a.2 j).toInt ≤ 999
theorem spC_ne {j : Nat} {l h : Int32} {a : spA} {i : Nat} (e : i ≠ j) : (spC j l h a).1.1 i = a.1 i ∧ (spC j l h a).1.2 i = a.2 i := by
  unfold spC
  split
  · exact ⟨rfl, rfl⟩
  · simp only [upF]
    rw [if_neg e, if_neg e]
    exact ⟨rfl, rfl⟩
theorem spC_mo {j : Nat} {l h : Int32} {a : spA} (i : Nat) : (a.1 i).toInt ≤ ((spC j l h a).1.1 i).toInt ∧ ((spC j l h a).1.2 i).toInt ≤ (a.2 i).toInt := by
  by_cases e : i = j
  · subst e
    unfold spC
    split
    · exact ⟨Int.le_refl _, Int.le_refl _⟩
    · simp only [upF, if_true]
      constructor
      · split <;> omega
      · split <;> omega
  · rw [(spC_ne e).1, (spC_ne e).2]; exact ⟨Int.le_refl _, Int.le_refl _⟩
theorem spE_mo {j : Nat} {l h : Int32} {a : spA} {i : Nat} (e : spE a i = true) : spE (spC j l h a).1 i = true := by
  have := of_decide_eq_true e
  have m := spC_mo (j := j) (l := l) (h := h) (a := a) i
  exact decide_eq_true (by omega)
theorem spE_ne {j : Nat} {l h : Int32} {a : spA} {i : Nat} (e : i ≠ j) : spE (spC j l h a).1 i = spE a i := by
  unfold spE
  rw [(spC_ne e).1, (spC_ne e).2]
/-- the three cuts, stopped at the first empty span -/
theorem tri_1 {k : Int32} {i : Nat} {a : spA} (e : spE (spt1 k i a).1 i = true) : spB i (spS k i a) = true := by
  have : spE (spS k i a) i = true := spE_mo (spE_mo e)
  unfold spB
  rw [this]; rfl
theorem tri_2 {k : Int32} {i : Nat} {a : spA} (e : spE (spt2 k i (spt1 k i a).1).1 (i - 1) = true) : spB i (spS k i a) = true := by
  have : spE (spS k i a) (i - 1) = true := spE_mo e
  unfold spB
  rw [this]; simp
theorem tri_3 {k : Int32} {i : Nat} {a : spA} (e : spE (spS k i a) (i + 1) = true) : spB i (spS k i a) = true := by
  unfold spB
  rw [e]; simp
theorem tri_0 {k : Int32} {i : Nat} {a : spA} (h1 : 1 ≤ i) (e1 : spE (spt1 k i a).1 i = false) (e2 : spE (spt2 k i (spt1 k i a).1).1 (i - 1) = false) (e3 : spE (spS k i a) (i + 1) = false) : spB i (spS k i a) = false := by
  have q1 : spE (spS k i a) i = false := by
    show spE (spC (i + 1) _ _ (spC (i - 1) _ _ (spt1 k i a).1).1).1 i = false
    rw [spE_ne (by omega), spE_ne (by omega)]
    exact e1
  have q2 : spE (spS k i a) (i - 1) = false := by
    show spE (spC (i + 1) _ _ (spt2 k i (spt1 k i a).1).1).1 (i - 1) = false
    rw [spE_ne (by omega)]
    exact e2
  unfold spB
  rw [q1, q2, e3]; rfl
theorem spS_bd {n i : Nat} {k : Int32} {a : spA} (h1 : 1 ≤ i) (h : BD n a) (hb : spB i (spS k i a) = false) : BD n (spS k i a) := fun j hj => by
  obtain ⟨b1, b2, b3⟩ := h j hj
  have m1 := spC_mo (j := i) (l := binf 5 (a.1 (i - 1) + a.1 (i + 1) - k + 1) 1) (h := binf 5 (a.2 (i - 1) + a.2 (i + 1) + k) 1) (a := a) j
  have m1 : (a.1 j).toInt ≤ ((spt1 k i a).1.1 j).toInt ∧ ((spt1 k i a).1.2 j).toInt ≤ (a.2 j).toInt := m1
  have m2 : ∀ a : spA, (a.1 j).toInt ≤ ((spt2 k i a).1.1 j).toInt ∧ ((spt2 k i a).1.2 j).toInt ≤ (a.2 j).toInt := fun a => spC_mo j
  have m3 : ∀ a : spA, (a.1 j).toInt ≤ ((spt3 k i a).1.1 j).toInt ∧ ((spt3 k i a).1.2 j).toInt ≤ (a.2 j).toInt := fun a => spC_mo j
  have m2 := m2 (spt1 k i a).1
  have m3 := m3 (spt2 k i (spt1 k i a).1).1
  have m3 : ((spt2 k i (spt1 k i a).1).1.1 j).toInt ≤ ((spS k i a).1 j).toInt ∧ ((spS k i a).2 j).toInt ≤ ((spt2 k i (spt1 k i a).1).1.2 j).toInt := m3
  obtain ⟨c1, c2⟩ := Bool.or_eq_false_iff.mp hb
  obtain ⟨c2, c3⟩ := Bool.or_eq_false_iff.mp c2
  have c1 := of_decide_eq_false c1
  have c2 := of_decide_eq_false c2
  have c3 := of_decide_eq_false c3
  refine ⟨by omega, ?_, by omega⟩
  by_cases e1 : j = i
  · subst e1; omega
  · by_cases e2 : j = i - 1
    · subst e2; omega
    · by_cases e3 : j = i + 1
      · subst e3; omega
      · have q : (spS k i a).1 j = a.1 j ∧ (spS k i a).2 j = a.2 j := by
          have z3 : (spS k i a).1 j = (spt2 k i (spt1 k i a).1).1.1 j ∧ (spS k i a).2 j = (spt2 k i (spt1 k i a).1).1.2 j := spC_ne e3
          have z2 : (spt2 k i (spt1 k i a).1).1.1 j = (spt1 k i a).1.1 j ∧ (spt2 k i (spt1 k i a).1).1.2 j = (spt1 k i a).1.2 j := spC_ne e2
          have z1 : (spt1 k i a).1.1 j = a.1 j ∧ (spt1 k i a).1.2 j = a.2 j := spC_ne e1
          exact ⟨z3.1.trans (z2.1.trans z1.1), z3.2.trans (z2.2.trans z1.2)⟩
        rw [q.1, q.2]; exact b2
theorem swp_bd {n : Nat} {k : Int32} : ∀ {f i : Nat} {m : Bool} {a : spA}, 1 ≤ i → BD n a → (swp k f i m a).2 = true → BD n (swp k f i m a).1.1
  | 0, _, _, _, _, h, _ => h
  | f + 1, i, m, a, h1, h, e => by
    unfold swp at e ⊢
    cases hb : spB i (spS k i a) with
    | true => rw [hb] at e; cases e
    | false => rw [hb] at e; exact swp_bd (by omega) (spS_bd h1 h hb) e
def wd2 (a : spA) (j : Nat) : Nat := ((a.2 j).toInt - (a.1 j).toInt).toNat
def mu2 : Nat → spA → Nat
  | 0, _ => 0
  | n + 1, a => mu2 n a + wd2 a n
theorem mu_2 : ∀ {n : Nat} {a : spA}, BD n a → mu n a = mu2 n a + n * 4294967296 ∧ mu2 n a ≤ n * 1998
  | 0, _, _ => ⟨rfl, Nat.le_refl _⟩
  | n + 1, a, h => by
    obtain ⟨q1, q2⟩ := mu_2 (n := n) (a := a) (fun j hj => h j (by omega))
    obtain ⟨b1, b2, b3⟩ := h n (by omega)
    have e : spW a n = wd2 a n + 4294967296 := by unfold spW wd2; omega
    have e2 : wd2 a n ≤ 1998 := by unfold wd2; omega
    constructor
    · show mu n a + spW a n = mu2 n a + wd2 a n + (n + 1) * 4294967296
      rw [q1, e]; omega
    · show mu2 n a + wd2 a n ≤ (n + 1) * 1998
      omega
theorem swp_m2 {n : Nat} {k : Int32} {a : spA} (hn : 2 ≤ n) (h : BD n a) (e : (swp k (n - 2) 1 false a).2 = true) (e2 : (swp k (n - 2) 1 false a).1.2 = true) : mu2 n (swp k (n - 2) 1 false a).1.1 < mu2 n a := by
  have h' := swp_bd (n := n) (by omega) h e
  rcases (swp_m (n := n) (k := k) (f := n - 2) (i := 1) (m := false) (a := a) (by omega) (by omega)).2 e2 with q | q
  · cases q
  · rw [(mu_2 h).1, (mu_2 h').1] at q
    omega
theorem spn_cv2 {k : Int32} {n : Nat} (hn : 2 ≤ n) : ∀ {F : Nat} {a : spA}, BD n a → mu2 n a < F → ∀ F', F ≤ F' → spn k n F' a = spn k n F a
  | 0, a, _, h, _, _ => absurd h (Nat.not_lt_zero _)
  | F + 1, a, hB, h, F', h' => by
    obtain ⟨G, rfl⟩ : ∃ G, F' = G + 1 := ⟨F' - 1, by omega⟩
    unfold spn
    cases e1 : (swp k (n - 2) 1 false a).2 with
    | false => rfl
    | true =>
      cases e2 : (swp k (n - 2) 1 false a).1.2 with
      | false => rfl
      | true =>
        have q := swp_m2 hn hB e1 e2
        exact spn_cv2 hn (swp_bd (n := n) (by omega) hB e1) (by omega) G (by omega)
/-- floorDiv by 2 as the JDK has it -/
def fdI (x : Int32) : Int32 := bif cmp0 4 (binf 7 x 2) then divf 0 x 2 else bif cmpf 1 (divf 0 x 2 * 2) x then divf 0 x 2 else divf 0 x 2 - 1
def fdv (n : Nat) : Int32 := Int32.ofInt ((n : Int) - 5000)
theorem fd_c : (List.range 10001).all (fun n => decide (-(fdI (-(fdv n))) = binf 5 (fdv n + 1) 1) && decide (fdI (fdv n) = binf 5 (fdv n) 1)) = true := by decide +kernel
theorem fd_ok {t : Int32} (h1 : -5000 ≤ t.toInt) (h2 : t.toInt ≤ 5000) : -(fdI (-t)) = binf 5 (t + 1) 1 ∧ fdI t = binf 5 t 1 := by
  have e : t = fdv (t.toInt + 5000).toNat := Int32.toInt_inj.mp (by
    unfold fdv
    rw [show (((t.toInt + 5000).toNat : Nat) : Int) - 5000 = t.toInt by omega, Int32.ofInt_toInt])
  have q := List.all_eq_true.mp fd_c (t.toInt + 5000).toNat (List.mem_range.mpr (by omega))
  rw [← e] at q
  obtain ⟨q1, q2⟩ := (Bool.and_eq_true _ _).mp q
  exact ⟨of_decide_eq_true q1, of_decide_eq_true q2⟩

/-! The loop's invariant behind a reading of the class -/
def freeT (t : yT) : Bool := match t with
  | .inl q => decide (q.1 ≤ -2147483648) && decide (2147483647 ≤ q.2)
  | .inr _ => true
theorem free_ok {rg : Nat → Nat} {n : Nat} {t : yT} {x y : Int32} {p : Option Nat} (hf : freeT t = true) (h : tyOk rg n t x p) : tyOk rg n t y p := by
  rcases t with q | q | q
  · obtain ⟨h1, h2⟩ := (Bool.and_eq_true _ _).mp hf
    have h1 := of_decide_eq_true h1
    have h2 := of_decide_eq_true h2
    have e1 := Int32.le_toInt y
    have e2 := Int32.toInt_lt y
    show q.1 ≤ y.toInt ∧ y.toInt ≤ q.2
    omega
  · exact True.intro
  · exact h
def spL (b : Bool) : List (Nat × Nat) := [(1, 10), (1, 11), (1, 12), (2, 2), (2, 3), (2, 4), (2, 5), (tld b, 10), (tld b, 11)]
theorem fL_ty : ∀ b : Bool, ∀ a : Fin 137, ∀ k : Fin 50, fL (tld b) a.1 k.1 = false ∨ freeT (ysl RR (rgP b a.1) k.1) = true ∨ (spL b).any (fun q => Nat.beq a.1 q.1 && Nat.beq k.1 q.2) = true := by decide +kernel
def fLo (b : Bool) (a : Nat) : Bool := (Nat.beq a 1 || Nat.beq a 2) || ((Nat.ble 16 a && Nat.ble a 18) || (Nat.ble (tld b) a && Nat.ble a (tld b + 11)))
theorem fL_o {b : Bool} {a k : Nat} (h : fLo b a = false) : fL (tld b) a k = false := by
  obtain ⟨h1, h2⟩ := (Bool.or_eq_false_iff).mp h
  obtain ⟨h3, h4⟩ := (Bool.or_eq_false_iff).mp h1
  obtain ⟨h5, h6⟩ := (Bool.or_eq_false_iff).mp h2
  unfold fL fT fC
  rw [h3, h4, h5, h6]
  rfl
theorem fLo_137 {b : Bool} {a : Nat} (h : fLo b a = true) : a < 137 := by
  have ht : tld b + 11 < 137 := tld_lt b ⟨11, by decide⟩
  rcases (Bool.or_eq_true _ _).mp h with h | h
  · rcases (Bool.or_eq_true _ _).mp h with h | h
    · have := nbT h; omega
    · have := nbT h; omega
  · rcases (Bool.or_eq_true _ _).mp h with h | h
    · have := Nat.le_of_ble_eq_true ((Bool.and_eq_true _ _).mp h).2; omega
    · have := Nat.le_of_ble_eq_true ((Bool.and_eq_true _ _).mp h).2; omega
theorem fLo_W : ∀ b : Bool, ∀ a : Fin 137, fLo b a.1 = false ∨ RR.2.2.1 (rgP b a.1) ≤ 50 := by decide +kernel
theorem knd_4 {B : Nat → Int} {lim p : Nat} : knd B lim p ≤ 4 := by
  unfold knd
  repeat' split
  all_goals first | omega | (cases isLt (gt9 B lim (skp B lim p)) <;> cases isDg (gt9 B lim (skp B lim p)) <;> simp only [cond_true, cond_false] <;> repeat' split) <;> omega
theorem isB_b {x : Int32} (h : isB x = true) : 0 ≤ x.toInt ∧ x.toInt ≤ 1 := by
  rcases (Bool.or_eq_true _ _).mp h with e | e
  · rw [of_decide_eq_true e]; decide
  · rw [of_decide_eq_true e]; decide
theorem LB_rd {b : Bool} {rg : Nat → Nat} {M M1 : aM} {B : Nat → Int} {lim : Nat} {m : pmd} (hL : LB b rg M) (E : EnC (tld b) B lim M1) (S : StC B lim M1 m) (T : Ty (tld b) M1) (Q : eqE (fL (tld b)) M M1) : LB b rg M1 := by
  obtain ⟨h1, h2, h3, h4, h5, h6, h7, h8⟩ := hL
  obtain ⟨⟨q1, _, _⟩, ⟨q4, q5, _, q7⟩, q8⟩ := Q
  refine ⟨⟨by rw [q1]; exact h1.1, fun a ha => ?_⟩, h2, ?_, ?_, by rw [q1]; exact h5, ?_, by rw [q7]; exact h7, by rw [q7]; exact h8⟩
  · rw [q1] at ha
    obtain ⟨k1, k2, k3⟩ := h1.2 a ha
    refine ⟨by rw [q4]; exact k1, by rw [q5]; exact k2, fun k hk => ?_⟩
    have k3 := k3 k hk
    rw [q1, q7]
    by_cases hf : fL (tld b) a k = false
    · rw [q8 a k hf]; exact k3
    · have ho : fLo b a = true := by
        cases e : fLo b a with
        | true => rfl
        | false => exact absurd (fL_o e) hf
      have ha9 := fLo_137 ho
      have hw : k < 50 := by
        rcases fLo_W b ⟨a, ha9⟩ with e | e
        · simp only at e; rw [ho] at e; cases e
        · simp only at e; rw [h2 a ha9] at hk; omega
      rcases fL_ty b ⟨a, ha9⟩ ⟨k, hw⟩ with e | e | e
      · exact absurd e hf
      · simp only at e
        rw [← h2 a ha9] at e
        exact free_ok e k3
      · obtain ⟨q, z1, z2⟩ := List.any_eq_true.mp e
        obtain ⟨z3, z4⟩ := (Bool.and_eq_true _ _).mp z2
        have z3 : a = q.1 := nbT z3
        have z4 : k = q.2 := nbT z4
        obtain ⟨p, ⟨p1, p2⟩, _⟩ := S
        have hl7 := E.2.2.2.1
        have hn := nxt_le (B := B) p1
        have hs := skp_le (B := B) p1
        have key : ∀ (x y : Nat) (lo hi : Int), (∀ b, ysl RR (rgP b x) y = .inl (lo, hi)) → x < 137 → a = x → k = y → lo ≤ (a_I M1 x y).toInt ∧ (a_I M1 x y).toInt ≤ hi → tyOk rg (a_n M) (ysl RR (rg a) k) (a_I M1 a k) (a_P M a k) := fun x y lo hi ht hx e1 e2 hb => by
          subst e1
          subst e2
          rw [h2 a hx, ht b]
          exact hb
        have keyt : ∀ (y : Nat) (lo hi : Int), (∀ b, ysl RR (rgP b (tld b)) y = .inl (lo, hi)) → a = tld b → k = y → lo ≤ (a_I M1 (tld b) y).toInt ∧ (a_I M1 (tld b) y).toInt ≤ hi → tyOk rg (a_n M) (ysl RR (rg a) k) (a_I M1 a k) (a_P M a k) := fun y lo hi ht e1 e2 hb => by
          subst e2
          rw [e1, h2 (tld b) (tld_lt b ⟨0, by decide⟩), ht b]
          exact hb
        rcases List.mem_cons.mp z1 with e | z1
        · rw [e] at z3 z4; exact key 1 10 0 1 (fun b => by cases b <;> rfl) (by decide) z3 z4 (isB_b T.1.1)
        rcases List.mem_cons.mp z1 with e | z1
        · rw [e] at z3 z4; exact key 1 11 0 1 (fun b => by cases b <;> rfl) (by decide) z3 z4 (isB_b T.1.2.1)
        rcases List.mem_cons.mp z1 with e | z1
        · rw [e] at z3 z4; exact key 1 12 0 1 (fun b => by cases b <;> rfl) (by decide) z3 z4 (isB_b T.1.2.2)
        rcases List.mem_cons.mp z1 with e | z1
        · rw [e] at z3 z4; exact key 2 2 0 700 (fun b => by cases b <;> rfl) (by decide) z3 z4 (by rw [E.2.2.1]; omega)
        rcases List.mem_cons.mp z1 with e | z1
        · rw [e] at z3 z4; exact key 2 3 0 700 (fun b => by cases b <;> rfl) (by decide) z3 z4 (by rw [p2.2.2.1]; omega)
        rcases List.mem_cons.mp z1 with e | z1
        · rw [e] at z3 z4; exact key 2 4 0 4 (fun b => by cases b <;> rfl) (by decide) z3 z4 (by rw [p2.2.1]; have := knd_4 (B := B) (lim := lim) (p := p); omega)
        rcases List.mem_cons.mp z1 with e | z1
        · rw [e] at z3 z4; exact key 2 5 0 700 (fun b => by cases b <;> rfl) (by decide) z3 z4 (by rw [p2.1]; omega)
        rcases List.mem_cons.mp z1 with e | z1
        · rw [e] at z3 z4; exact keyt 10 0 4 (fun b => by cases b <;> rfl) z3 z4 T.2.1.1
        rcases List.mem_cons.mp z1 with e | z1
        · rw [e] at z3 z4; exact keyt 11 0 4 (fun b => by cases b <;> rfl) z3 z4 T.2.1.2
        cases z1
  · intro a ha hb
    rw [q1] at hb
    exact h3 a ha hb
  · rw [q1]; exact h4
  · intro q hq
    rw [q7]; exact h6 q hq
/-- a single int -/
theorem LB_s {b : Bool} {rg : Nat → Nat} {M : aM} (hL : LB b rg M) {x y : Nat} {v : Int32} (hx : x < 137) (hv : (b : Bool) → freeT (ysl RR (rgP b x) y) = true ∨ ∃ lo hi, ysl RR (rgP b x) y = .inl (lo, hi) ∧ lo ≤ v.toInt ∧ v.toInt ≤ hi) : LB b rg (s_I M x y v) := by
  obtain ⟨h1, h2, h3, h4, h5, h6, h7, h8⟩ := hL
  refine ⟨⟨h1.1, fun a ha => ?_⟩, h2, h3, h4, h5, h6, h7, h8⟩
  obtain ⟨k1, k2, k3⟩ := h1.2 a ha
  refine ⟨k1, k2, fun k hk => ?_⟩
  have k3 := k3 k hk
  show tyOk rg (a_n M) (ysl RR (rg a) k) (a_I (s_I M x y v) a k) (a_P M a k)
  rw [aI_sI]
  by_cases e : a = x ∧ k = y
  · rw [if_pos e]
    obtain ⟨e1, e2⟩ := e
    subst e1
    subst e2
    rw [h2 a hx] at k3 ⊢
    rcases hv b with h | ⟨lo, hi, h, hb⟩
    · exact free_ok h k3
    · rw [h]; exact hb
  · rw [if_neg e]; exact k3

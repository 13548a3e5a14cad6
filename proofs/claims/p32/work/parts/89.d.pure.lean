/-! The text's tokens, by their places. -/
def gt9 (B : Nat → Int) (lim k : Nat) : Int := if k < lim then B k else -1
def isLt (c : Int) : Bool := decide (97 ≤ c) && decide (c ≤ 122)
def isDg (c : Int) : Bool := decide (48 ≤ c) && decide (c ≤ 57)
theorem isLt_T {c : Int} (h : isLt c = true) : 97 ≤ c ∧ c ≤ 122 := by
  obtain ⟨h1, h2⟩ := (Bool.and_eq_true _ _).mp h
  exact ⟨of_decide_eq_true h1, of_decide_eq_true h2⟩
theorem isLt_F {c : Int} (h : isLt c = false) : c < 97 ∨ 122 < c := by
  by_cases h1 : 97 ≤ c
  · by_cases h2 : c ≤ 122
    · unfold isLt at h
      rw [decide_eq_true h1, decide_eq_true h2] at h
      cases h
    · omega
  · omega
theorem isDg_T {c : Int} (h : isDg c = true) : 48 ≤ c ∧ c ≤ 57 := by
  obtain ⟨h1, h2⟩ := (Bool.and_eq_true _ _).mp h
  exact ⟨of_decide_eq_true h1, of_decide_eq_true h2⟩
theorem isDg_F {c : Int} (h : isDg c = false) : c < 48 ∨ 57 < c := by
  by_cases h1 : 48 ≤ c
  · by_cases h2 : c ≤ 57
    · unfold isDg at h
      rw [decide_eq_true h1, decide_eq_true h2] at h
      cases h
    · omega
  · omega
theorem isLt_i {c : Int} (h : 97 ≤ c ∧ c ≤ 122) : isLt c = true := by unfold isLt; rw [decide_eq_true h.1, decide_eq_true h.2]; rfl
theorem isDg_i {c : Int} (h : 48 ≤ c ∧ c ≤ 57) : isDg c = true := by unfold isDg; rw [decide_eq_true h.1, decide_eq_true h.2]; rfl
/-- the first place from p on where P doesn't hold -/
def fw (P : Nat → Bool) : Nat → Nat → Nat
  | 0, p => p
  | n + 1, p => bif P p then fw P n (p + 1) else p
theorem fw_ge {P : Nat → Bool} : ∀ {n p : Nat}, p ≤ fw P n p
  | 0, _ => Nat.le_refl _
  | n + 1, p => by
    unfold fw
    cases P p with
    | true => exact Nat.le_trans (Nat.le_succ p) (fw_ge (n := n) (p := p + 1))
    | false => exact Nat.le_refl _
theorem fw_all {P : Nat → Bool} : ∀ {n p j : Nat}, p ≤ j → j < fw P n p → P j = true
  | 0, p, j, h1, h2 => by unfold fw at h2; omega
  | n + 1, p, j, h1, h2 => by
    unfold fw at h2
    cases hp : P p with
    | true =>
      rw [hp] at h2
      by_cases e : j = p
      · rw [e]; exact hp
      · exact fw_all (n := n) (p := p + 1) (by omega) h2
    | false =>
      rw [hp] at h2
      have h2 : j < p := h2
      omega
def fwd (P : Nat → Bool) (p : Nat) : Nat := fw P (701 - p) p
theorem fwd_T {P : Nat → Bool} {p : Nat} (hp : p ≤ 700) (h : P p = true) : fwd P p = fwd P (p + 1) := by
  unfold fwd
  rw [show 701 - p = (701 - (p + 1)) + 1 by omega]
  show (bif P p then _ else _) = _
  rw [h]
  rfl
theorem fwd_F {P : Nat → Bool} {p : Nat} (h : P p = false) : fwd P p = p := by
  unfold fwd
  cases 701 - p with
  | zero => rfl
  | succ n =>
    show (bif P p then _ else _) = _
    rw [h]
    rfl
theorem fwd_ge {P : Nat → Bool} {p : Nat} : p ≤ fwd P p := fw_ge
theorem fwd_all {P : Nat → Bool} {p j : Nat} (h1 : p ≤ j) (h2 : j < fwd P p) : P j = true := fw_all h1 h2
theorem fwd_le {P : Nat → Bool} {p lim : Nat} (hp : p ≤ lim) (h : P lim = false) : fwd P p ≤ lim := by
  by_cases hc : fwd P p ≤ lim
  · exact hc
  · have := fwd_all (P := P) hp (by omega)
    rw [h] at this
    cases this
def skp (B : Nat → Int) (lim p : Nat) : Nat := fwd (fun k => decide (gt9 B lim k = 32)) p
def ewd (B : Nat → Int) (lim p : Nat) : Nat := fwd (fun k => isLt (gt9 B lim k)) p
def edg (B : Nat → Int) (lim p : Nat) : Nat := fwd (fun k => isDg (gt9 B lim k)) p
theorem gt9_lim {B : Nat → Int} {lim : Nat} : gt9 B lim lim = -1 := if_neg (Nat.lt_irrefl _)
theorem skp_le {B : Nat → Int} {lim p : Nat} (h : p ≤ lim) : skp B lim p ≤ lim := fwd_le h (by rw [gt9_lim]; rfl)
theorem ewd_le {B : Nat → Int} {lim p : Nat} (h : p ≤ lim) : ewd B lim p ≤ lim := fwd_le h (by rw [gt9_lim]; rfl)
theorem edg_le {B : Nat → Int} {lim p : Nat} (h : p ≤ lim) : edg B lim p ≤ lim := fwd_le h (by rw [gt9_lim]; rfl)
theorem gt9_in {B : Nat → Int} {lim k : Nat} (h : gt9 B lim k ≠ -1) : k < lim := by
  by_cases hc : k < lim
  · exact hc
  · exact absurd (if_neg hc) h
/-- the token at p: 0 the end, 1 a word, 2 a whole, 3 a semicolon, 4 anything else -/
def knd (B : Nat → Int) (lim p : Nat) : Nat := bif isLt (gt9 B lim (skp B lim p)) then (if ewd B lim (skp B lim p) - skp B lim p ≤ 8 then 1 else 4) else bif isDg (gt9 B lim (skp B lim p)) then (if edg B lim (skp B lim p) - skp B lim p ≤ 3 then 2 else 4) else if gt9 B lim (skp B lim p) = -1 then 0 else if gt9 B lim (skp B lim p) = 59 then 3 else 4
/-- where it ends -/
def nxt (B : Nat → Int) (lim p : Nat) : Nat := bif isLt (gt9 B lim (skp B lim p)) then ewd B lim (skp B lim p) else bif isDg (gt9 B lim (skp B lim p)) then edg B lim (skp B lim p) else if gt9 B lim (skp B lim p) = -1 then skp B lim p else skp B lim p + 1
/-- a whole's value, a word's number -/
def vfd (g : Nat → Int) (s : Nat) : Nat → Int
  | 0 => 0
  | k + 1 => 10 * vfd g s k + g (s + k) - 48
def hsh (g : Nat → Int) (s : Nat) : Nat → Int
  | 0 => 0
  | k + 1 => 32 * hsh g s k + (g (s + k) - 96)
def val (B : Nat → Int) (lim p : Nat) : Int := vfd (gt9 B lim) (skp B lim p) (nxt B lim p - skp B lim p)
theorem vfd_bd {g : Nat → Int} {s : Nat} : ∀ {k : Nat}, k ≤ 3 → (∀ j, j < k → isDg (g (s + j)) = true) → 0 ≤ vfd g s k ∧ vfd g s k ≤ (10 ^ k : Nat) - 1
  | 0, _, _ => by unfold vfd; simp
  | k + 1, hk, h => by
    have ih := vfd_bd (g := g) (s := s) (k := k) (by omega) (fun j hj => h j (by omega))
    have h1 := isDg_T (h k (by omega))
    unfold vfd
    rw [show ((10 ^ (k + 1) : Nat) : Int) = 10 * ((10 ^ k : Nat) : Int) by rw [Nat.pow_succ]; omega]
    omega
theorem hsh_bd {g : Nat → Int} {s : Nat} : ∀ {k : Nat}, (∀ j, j < k → isLt (g (s + j)) = true) → 0 ≤ hsh g s k ∧ hsh g s k ≤ (32 ^ k : Nat) - 1
  | 0, _ => by unfold hsh; simp
  | k + 1, h => by
    have ih := hsh_bd (g := g) (s := s) (k := k) (fun j hj => h j (by omega))
    have h1 := isLt_T (h k (by omega))
    unfold hsh
    rw [show ((32 ^ (k + 1) : Nat) : Int) = 32 * ((32 ^ k : Nat) : Int) by rw [Nat.pow_succ]; omega]
    omega
/-- a word's number tells the word -/
theorem hsh_inj {f g : Nat → Int} {s t : Nat} : ∀ {n m : Nat}, (∀ j, j < n → isLt (f (s + j)) = true) → (∀ j, j < m → isLt (g (t + j)) = true) → hsh f s n = hsh g t m → n = m ∧ ∀ j, j < n → f (s + j) = g (t + j)
  | 0, 0, _, _, _ => ⟨rfl, fun j hj => absurd hj (Nat.not_lt_zero j)⟩
  | 0, m + 1, _, h2, e => by
    have := hsh_bd (g := g) (s := t) (k := m) (fun j hj => h2 j (by omega))
    have h1 := isLt_T (h2 m (by omega))
    unfold hsh at e
    omega
  | n + 1, 0, h1, _, e => by
    have := hsh_bd (g := f) (s := s) (k := n) (fun j hj => h1 j (by omega))
    have h1 := isLt_T (h1 n (by omega))
    unfold hsh at e
    omega
  | n + 1, m + 1, h1, h2, e => by
    have a1 := isLt_T (h1 n (by omega))
    have a2 := isLt_T (h2 m (by omega))
    unfold hsh at e
    have e1 : hsh f s n = hsh g t m := by omega
    obtain ⟨q1, q2⟩ := hsh_inj (fun j hj => h1 j (by omega)) (fun j hj => h2 j (by omega)) e1
    subst q1
    refine ⟨rfl, fun j hj => ?_⟩
    by_cases hj' : j < n
    · exact q2 j hj'
    · have : j = n := by omega
      subst this
      omega
theorem hsh_cong {f g : Nat → Int} {s t : Nat} : ∀ {n : Nat}, (∀ j, j < n → f (s + j) = g (t + j)) → hsh f s n = hsh g t n
  | 0, _ => rfl
  | n + 1, h => by
    unfold hsh
    rw [hsh_cong (n := n) (fun j hj => h j (by omega)), h n (by omega)]
/-- the token at p is this word -/
def isW (B : Nat → Int) (lim : Nat) (w : List Nat) (p : Nat) : Bool := Nat.beq (knd B lim p) 1 && (Nat.beq (nxt B lim p - skp B lim p) w.length && (List.range w.length).all (fun i => decide (gt9 B lim (skp B lim p + i) = (w.getD i 0 : Int))))
/-- how the reading stands: a place, or the first fault with its place -/
abbrev pmd : Type := Nat ⊕ (Nat × Nat)
def m_bad (B : Nat → Int) (lim k : Nat) (m : pmd) : pmd := match m with
  | .inl p => .inr (k, skp B lim p)
  | .inr f => .inr f
def m_adv (B : Nat → Int) (lim : Nat) (m : pmd) : pmd := match m with
  | .inl p => .inl (nxt B lim p)
  | .inr f => .inr f
def m_if (B : Nat → Int) (lim k : Nat) (c : Bool) (m : pmd) : pmd := bif c then m_bad B lim k m else m
def m_is (B : Nat → Int) (lim : Nat) (w : List Nat) (m : pmd) : Bool := match m with
  | .inl p => isW B lim w p
  | .inr _ => false
def m_wd (B : Nat → Int) (lim : Nat) (w : List Nat) (m : pmd) : pmd := m_adv B lim (m_if B lim 1 (!m_is B lim w m) m)
def m_dg (B : Nat → Int) (lim : Nat) (m : pmd) : Bool := match m with
  | .inl p => Nat.beq (knd B lim p) 2
  | .inr _ => false
def m_val (B : Nat → Int) (lim : Nat) (m : pmd) : Int := match m with
  | .inl p => val B lim p
  | .inr _ => 0
def m_wh (B : Nat → Int) (lim : Nat) (lo hi : Int) (m : pmd) : pmd := m_adv B lim (bif m_dg B lim m then m_if B lim 4 (!(decide (lo ≤ m_val B lim m) && decide (m_val B lim m ≤ hi))) m else m_bad B lim 1 m)
def m_pt (B : Nat → Int) (lim : Nat) (w : List Nat) (lo hi : Int) (m : pmd) : pmd := m_wh B lim lo hi (m_wd B lim w m)

/-! Certificates over contracts; the first g variables of every state told are the entry's. -/
def ygh : Nat → Nat → List (Nat × Int) → Bool
  | 0, _, _ => true
  | n + 1, j, t :: T => (Nat.beq t.1 j && decide (t.2 = 0)) && ygh n (j + 1) T
  | _ + 1, _, [] => false
theorem ygh_ok : ∀ {n j : Nat} {T : List (Nat × Int)}, ygh n j T = true → ∀ i, i < n → T[i]? = some (j + i, 0)
  | 0, _, _, _, i, hi => absurd hi (Nat.not_lt_zero i)
  | n + 1, j, t :: T, h, i, hi => by
    obtain ⟨h1, h2⟩ := (Bool.and_eq_true _ _).mp h
    obtain ⟨h3, h4⟩ := (Bool.and_eq_true _ _).mp h1
    cases i with
    | zero =>
      show some t = _
      have e1 := nbT h3
      have e2 := of_decide_eq_true h4
      rw [show t = (t.1, t.2) from rfl, e1, e2]
      rfl
    | succ i =>
      have := ygh_ok h2 i (by omega)
      show T[i]? = _
      rw [this, show j + 1 + i = j + (i + 1) by omega]
  | _ + 1, _, [], h, _, _ => by cases h
def gh (g : Nat) (γ ρ : List Int) : Prop := ∀ i, i ≤ g → ∃ w, γ[i]? = some w ∧ ρ[i]? = some w
theorem gh_app {g : Nat} {γ ρ ρ2 : List Int} (h : gh g γ ρ) : gh g γ (ρ ++ ρ2) := fun i hi => by
  obtain ⟨w, h1, h2⟩ := h i hi
  exact ⟨w, h1, app_at h2⟩
theorem gh_T {g : Nat} {γ ρ : List Int} {T : List (Nat × Int)} (h : gh g γ ρ) (hT : ygh (g + 1) 0 T = true) : gh g γ (tI T ρ) := fun i hi => by
  obtain ⟨w, h1, h2⟩ := h i hi
  have := ygh_ok hT i (by omega)
  rw [Nat.zero_add] at this
  refine ⟨w, h1, ?_⟩
  rw [tI_at this h2]
  show some (w + 0) = some w
  rw [Int.add_zero]
def ygi (g : Nat) : yth := ((List.range g).map (fun i => (i + 1, (i + 1, 0))), [])
def ymaG (g : Nat) (ka : yK) (b : yN) (S : yS) : Bool := ypc b.1.2.2.2 S.2.2.2 && (match ytB S.2.2.1 b.1.2.2.1 (ytF b.1.2.2.2 S.2.2.2 (ygi g)) with
  | a => ymt ka b (yTI a 0 b.1.1) (yTR a 0 b.1.2.1) S && ygh (g + 1) 0 (yTI a 0 b.1.1))
def yexC (R : yR) (ms : Nat → Nat → Bool) (D : Nat) (ct : Nat → Nat → Option aO) (K : Nat → List yC) (g : Nat) (nd : Nat → List yN) (fin : yS → Bool) (ka : yK) : Nat → yS → Bool
  | 0, _ => false
  | f + 1, S => fin S || (match yctr R ms D ct K S with
    | some L => L.all (fun S' => (nd (yat S')).any (fun b => ymaG g ka b S') || yexC R ms D ct K g nd fin ka f S')
    | none => match ystq R ms D ct S with
      | none => false
      | some L => L.all (fun S' => (nd (yat S')).any (fun b => ymaG g ka b S') || yexC R ms D ct K g nd fin ka f S'))
def ychC (R : yR) (ms : Nat → Nat → Bool) (D : Nat) (ct : Nat → Nat → Option aO) (K : Nat → List yC) (g : Nat) (nd : Nat → List yN) (fin : yS → Bool) (n : Nat) (b : yN) : Bool := (match llo b.1.1 b.2.2 with
  | some m => decide (0 ≤ m + b.2.1)
  | none => false) && yexC R ms D ct K g nd fin b.2 n b.1
theorem yexC_ok {cd : Nat → Nat → Option aI} {R : yR} {ms : Nat → Nat → Bool} {rg : Nat → Nat} {M0 : aM} {D : Nat} {ct : Nat → Nat → Option aO} (hct : ∀ m p o, ct m p = some o → cd m p = some (semO o)) {K : Nat → List yC} (hK : ∀ y, ∀ c ∈ K y, yCtr cd R rg M0 ms c) {g : Nat} {γ : List Int} {nd : Nat → List yN} {fin : yS → Bool} {Q : aQ} (hfin : ∀ S ρ τ X, fin S = true → gh g γ ρ → gam R ms rg M0 D S ρ τ X → wpS cd X Q) {ka : yK} {ra : Int}
    (ih : ∀ b c, b ∈ nd c → ∀ ρ τ X, gh g γ ρ → gam R ms rg M0 D b.1 ρ τ X → rnk b.2 ρ < ra → wpS cd X Q) : ∀ {n : Nat} {S : yS} {ρ : List Int} {τ : List Nat} {X : aSt}, yexC R ms D ct K g nd fin ka n S = true → gh g γ ρ → gam R ms rg M0 D S ρ τ X → rnk ka ρ ≤ ra → (∀ ρ2, rnk ka (ρ ++ ρ2) = rnk ka ρ) → wpS cd X Q
  | 0, _, _, _, _, h, _, _, _, _ => by cases h
  | n + 1, S, ρ, τ, X, h, hγ, hg, hr, hp => by
    have go : ∀ L : List yS, L.all (fun S' => (nd (yat S')).any (fun b => ymaG g ka b S') || yexC R ms D ct K g nd fin ka n S') = true → ∀ S' ∈ L, ∀ ρ2 τ2 X', gam R ms rg M0 D S' (ρ ++ ρ2) (τ ++ τ2) X' → wpS cd X' Q := fun L h S' s1 ρ2 τ2 X' s2 => by
      have h := List.all_eq_true.mp h S' s1
      have hr' : rnk ka (ρ ++ ρ2) ≤ ra := by rw [hp]; exact hr
      have hγ' : gh g γ (ρ ++ ρ2) := gh_app hγ
      rcases (Bool.or_eq_true _ _).mp h with h | h
      · obtain ⟨b, b1, b2⟩ := List.any_eq_true.mp h
        obtain ⟨_, b2⟩ := (Bool.and_eq_true _ _).mp b2
        obtain ⟨b2, b3⟩ := (Bool.and_eq_true _ _).mp b2
        obtain ⟨m1, m2⟩ := ymt_ok b2 s2
        exact ih b _ b1 _ _ _ (gh_T hγ' b3) m1 (by omega)
      · exact yexC_ok hct hK hfin ih h hγ' s2 hr' (fun ρ3 => by rw [List.append_assoc, hp, hp])
    unfold yexC at h
    rcases (Bool.or_eq_true _ _).mp h with h | h
    · exact hfin S ρ τ X h hγ hg
    · split at h
      · rename_i L hL
        exact yctr_ok hct hK hL hg (go L h)
      · split at h
        · cases h
        · rename_i L hL
          obtain ⟨X', x1, S', s1, ρ2, τ2, s2⟩ := ystq_ok hct hL hg
          exact wp_stp x1 (go L h S' s1 ρ2 τ2 X' s2)
theorem yalC {cd : Nat → Nat → Option aI} {R : yR} {ms : Nat → Nat → Bool} {rg : Nat → Nat} {M0 : aM} {D : Nat} {ct : Nat → Nat → Option aO} (hct : ∀ m p o, ct m p = some o → cd m p = some (semO o)) {K : Nat → List yC} (hK : ∀ y, ∀ c ∈ K y, yCtr cd R rg M0 ms c) {g : Nat} {γ : List Int} {nd : Nat → List yN} {fin : yS → Bool} {Q : aQ} (hfin : ∀ S ρ τ X, fin S = true → gh g γ ρ → gam R ms rg M0 D S ρ τ X → wpS cd X Q) {n : Nat} (hall : ∀ c, ∀ b ∈ nd c, ychC R ms D ct K g nd fin n b = true) {b : yN} {c : Nat} (hb : b ∈ nd c) {ρ : List Int} {τ : List Nat} {X : aSt} (hγ : gh g γ ρ) (hg : gam R ms rg M0 D b.1 ρ τ X) : wpS cd X Q := by
  have main : ∀ k : Nat, ∀ b c, b ∈ nd c → ∀ ρ τ X, gh g γ ρ → gam R ms rg M0 D b.1 ρ τ X → rnk b.2 ρ < k → wpS cd X Q := by
    intro k
    induction k with
    | zero =>
      intro b c hb ρ τ X _ hg hr
      obtain ⟨h1, _⟩ := (Bool.and_eq_true _ _).mp (hall c b hb)
      split at h1
      · rename_i m hm
        have := llo_ok hg.1.1 hm
        have h1 := of_decide_eq_true h1
        unfold rnk at hr
        omega
      · cases h1
    | succ k ih =>
      intro b c hb ρ τ X hγ hg hr
      obtain ⟨h1, h2⟩ := (Bool.and_eq_true _ _).mp (hall c b hb)
      refine yexC_ok hct hK hfin (ra := (k : Int)) (fun b' c' hb' ρ' τ' X' hγ' hg' hr' => ih b' c' hb' ρ' τ' X' hγ' hg' hr') h2 hγ hg (by omega) (fun ρ2 => ?_)
      split at h1
      · rename_i m hm
        unfold rnk
        rw [lev_app (fun q hq => by rw [← hg.1.1.1]; exact llo_len hm q hq)]
      · cases h1
  exact main (rnk b.2 ρ).toNat.succ b c hb ρ τ X hγ hg (by have := Int.self_le_toNat (rnk b.2 ρ); omega)
/-- regions of one object -/
def sgl (g : List Nat) (n : Nat) (rg : Nat → Nat) : Prop := ∀ r ∈ g, ∀ o o' : Nat, o < n → o' < n → rg o = r → rg o' = r → o = o'
def yzok (g : Nat) (E : yE) (z : yZ) (q : Nat × Int) : Bool := match z with
  | .inl b => ywi E q b.1 b.2
  | .inr p => Nat.ble p.1 g && (Nat.beq p.1 q.1 && decide (p.2 = q.2))
theorem yzok_ok {g : Nat} {E : yE} {z : yZ} {q : Nat × Int} {γ ρ : List Int} {τ : List Nat} {x : Int32} (h : yzok g E z q = true) (hE : gE E ρ) (hγ : gh g γ ρ) (hv : yv ρ τ (.inl q) (.inl x)) : pZ γ z x.toInt := by
  rcases z with b | p
  · exact ywi_ok h hE hv
  · obtain ⟨h1, h2⟩ := (Bool.and_eq_true _ _).mp h
    obtain ⟨h3, h4⟩ := (Bool.and_eq_true _ _).mp h2
    obtain ⟨w, w1, w2⟩ := hγ p.1 (Nat.le_of_ble_eq_true h1)
    obtain ⟨z, z1, z2⟩ := hv
    rw [← nbT h3, w2] at z1
    cases z1
    exact ⟨w, w1, by rw [of_decide_eq_true h4]; exact z2⟩
def yslk (g : Nat) (g9 : List Nat) (S : yS) (s : (Nat × Nat) × yZ) : Bool := (g9.any (fun r => Nat.beq r s.1.1) && Nat.blt s.1.1 aSB) && S.2.2.1.any (fun b => ((S.2.1[b.1.1]?).any (fun r => Nat.beq r s.1.1) && Nat.beq b.1.2 s.1.2) && (match b.2 with
  | .inl q => yzok g S.1 s.2 q
  | _ => false))
def yfinC (ct : Nat → Nat → Option aO) (g : Nat) (g9 : List Nat) (al : List yA) (S : yS) : Bool := match S.2.2.2 with
  | [(mid, pc, _, st)] => (match ct mid pc, st with
    | some (24, b, _, _, _, _), [.inl q] => (!nB b || ywi S.1 q 0 1) && al.any (fun a => (match a.1 with
        | some z => yzok g S.1 z q
        | none => false) && a.2.all (yslk g g9 S))
    | some (25, _, _, _, _, _), [] => al.any (fun a => (match a.1 with
        | none => true
        | some _ => false) && a.2.all (yslk g g9 S))
    | _, _ => false)
  | _ => false
theorem yslk_ok {R : yR} {ms : Nat → Nat → Bool} {rg : Nat → Nat} {M0 : aM} {D g : Nat} {g9 : List Nat} {S : yS} {γ ρ : List Int} {τ : List Nat} {X : aSt} {s : (Nat × Nat) × yZ} (hsg : sgl g9 (a_n M0) rg) (h : yslk g g9 S s = true) (hγ : gh g γ ρ) (hg : gam R ms rg M0 D S ρ τ X) : ∀ o, o < a_n X.2.2.2.2.2.2 → rg o = s.1.1 → pZ γ s.2 (a_I X.2.2.2.2.2.2 o s.1.2).toInt := fun o ho hr => by
  obtain ⟨⟨g1, g2, g3⟩, g4, g5, g6, g7⟩ := hg
  obtain ⟨h1, h2⟩ := (Bool.and_eq_true _ _).mp h
  obtain ⟨h3, h4⟩ := (Bool.and_eq_true _ _).mp h1
  have h4 := blt_lt h4
  obtain ⟨r, r1, r2⟩ := List.any_eq_true.mp h3
  have r2 := nbT r2
  subst r2
  obtain ⟨b, b1, b2⟩ := List.any_eq_true.mp h2
  obtain ⟨b3, b4⟩ := (Bool.and_eq_true _ _).mp b2
  obtain ⟨b5, b6⟩ := (Bool.and_eq_true _ _).mp b3
  obtain ⟨a, a1, a2⟩ := g4 b b1
  have hn : a_n X.2.2.2.2.2.2 = a_n M0 := g5.2.1.1
  cases hgb : S.2.1[b.1.1]? with
  | none => rw [hgb] at b5; cases b5
  | some r' =>
    rw [hgb] at b5
    have b5 : r' = s.1.1 := nbT b5
    have hra : a < a_n X.2.2.2.2.2.2 ∧ rg a = s.1.1 := by
      rcases g2.2 _ _ _ hgb a1 with ⟨_, e1, e2⟩ | ⟨e, _⟩
      · exact ⟨e1, e2.trans b5⟩
      · rw [b5] at e
        omega
    have hoa : o = a := hsg _ r1 o a (by rw [← hn]; exact ho) (by rw [← hn]; exact hra.1) hr hra.2
    subst hoa
    rw [← nbT b6]
    split at b4
    · rename_i q hq
      rw [hq] at a2
      exact yzok_ok (τ := τ) b4 g1 hγ a2
    · cases b4
set_option maxHeartbeats 1000000 in
theorem yfinC_ok {cd : Nat → Nat → Option aI} {R : yR} {ms : Nat → Nat → Bool} {rg : Nat → Nat} {M0 : aM} {D : Nat} {ct : Nat → Nat → Option aO} (hct : ∀ m p o, ct m p = some o → cd m p = some (semO o)) {g : Nat} {g9 : List Nat} (hsg : sgl g9 (a_n M0) rg) {al : List yA} {S : yS} {γ ρ : List Int} {τ : List Nat} {X : aSt} (h : yfinC ct g g9 al S = true) (hγ : gh g γ ρ) (hg : gam R ms rg M0 D S ρ τ X) : wpS cd X (fun r M' => hT R rg M' ∧ Fr R ms rg M0 M' ∧ ∃ a ∈ al, pA rg γ a r M') := by
  have hg0 := hg
  obtain ⟨E, G, B, F⟩ := S
  obtain ⟨d, cfs, cm, cp, clo, cst, M⟩ := X
  obtain ⟨⟨g1, g2, g3⟩, g4, g5, g6, g7⟩ := hg
  unfold yfinC at h
  simp only at h g7 g1 g2 g4 g5
  split at h
  · rename_i mid pc lo st
    obtain ⟨⟨q1, q2, q3, q4⟩, q5⟩ := g7
    simp only at q1 q2 q3 q4
    subst q1
    subst q2
    have : cfs = [] := by
      have := gF_len q5
      exact List.eq_nil_of_length_eq_zero this.symm
    subst this
    split at h
    · rename_i b _ _ _ _ q ho
      obtain ⟨h1, h2⟩ := (Bool.and_eq_true _ _).mp h
      obtain ⟨a, a1, a2⟩ := List.any_eq_true.mp h2
      obtain ⟨a3, a4⟩ := (Bool.and_eq_true _ _).mp a2
      obtain ⟨v, w1, rfl, v1, v2⟩ := gK_cons q4
      have := gK_nil v2
      subst this
      obtain ⟨y, rfl⟩ := inv_int v1
      refine wp_ret (hct _ _ _ ho) (r := some (.inl y)) ?_ ⟨g5.1, g5.2, a, a1, ?_, fun s hs => yslk_ok hsg (List.all_eq_true.mp a4 s hs) hγ hg0⟩
      · show (bif _ then _ else _) = _
        rw [isB_wi h1 g1 v1]
        rfl
      · split at a3
        · rename_i z hz
          rw [hz]
          exact yzok_ok a3 g1 hγ v1
        · cases a3
    · rename_i ho
      obtain ⟨a, a1, a2⟩ := List.any_eq_true.mp h
      obtain ⟨a3, a4⟩ := (Bool.and_eq_true _ _).mp a2
      have := gK_nil q4
      subst this
      refine wp_ret (hct _ _ _ ho) (r := none) rfl ⟨g5.1, g5.2, a, a1, ?_, fun s hs => yslk_ok hsg (List.all_eq_true.mp a4 s hs) hγ hg0⟩
      split at a3
      · rename_i hz
        rw [hz]
        trivial
      · cases a3
    · cases h
  · cases h
/-- a contract out of a certificate -/
theorem ctr_of {cd : Nat → Nat → Option aI} {R : yR} {ms : Nat → Nat → Bool} {rg : Nat → Nat} {M0 : aM} {ct : Nat → Nat → Option aO} (hct : ∀ m p o, ct m p = some o → cd m p = some (semO o)) {K : Nat → List yC} {g : Nat} {g9 : List Nat} (hsg : sgl g9 (a_n M0) rg) {nd : Nat → List yN} {n : Nat} {c : yC} (hms : c.2.2.1.all (fun q => ms q.1 q.2) = true) (hK : ∀ y, ∀ c' ∈ K y, yCtr cd R rg M0 ms c') (hall : ∀ p, ∀ b ∈ nd p, ychC R (msL c.2.2.1) c.2.2.2 ct K g nd (yfinC ct g g9 c.2.1) n b = true) {k : yK} {p : Nat} (hb : (c.1, k) ∈ nd p) (hgl : Nat.blt g c.1.1.length = true) : yCtr cd R rg M0 ms c := fun ρ τ X hF hg => by
  have hn : a_n X.2.2.2.2.2.2 = a_n M0 := hF.1.1
  have hγ : gh g ρ ρ := fun i hi => by
    have hl : i < ρ.length := by
      rw [← hg.1.1.1]
      have := blt_lt hgl
      omega
    exact ⟨_, List.getElem?_eq_getElem hl, List.getElem?_eq_getElem hl⟩
  exact yalC hct (fun y c' hc' => yCtr_at (hK y c' hc') hF (msL_sub hms)) (fun S ρ' τ' X' h1 h2 h3 => yfinC_ok hct (by rw [hn]; exact hsg) h1 h2 h3) hall hb hγ hg

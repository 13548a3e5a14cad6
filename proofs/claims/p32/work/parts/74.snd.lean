/-! Soundness of the instructions without a call. -/
theorem tyI {rg : Nat → Nat} {n : Nat} {b : Int × Int} {x : Int32} {p : Option Nat} (h : tyOk rg n (.inl b) x p) : b.1 ≤ x.toInt ∧ x.toInt ≤ b.2 := h
theorem hT_sI {R : yR} {rg : Nat → Nat} {M : aM} {a k : Nat} {x : Int32} {b : Int × Int} (h : hT R rg M) (ht : ysl R (rg a) k = .inl b) (h1 : b.1 ≤ x.toInt) (h2 : x.toInt ≤ b.2) : hT R rg (s_I M a k x) := ⟨h.1, fun c hc => by
  obtain ⟨q1, q2, q3⟩ := h.2 c hc
  refine ⟨q1, q2, fun j hj => ?_⟩
  have hq := q3 j hj
  show tyOk rg (a_n M) _ (up2 (a_I M) a k x c j) (a_P M c j)
  rw [up2_eq]
  split
  · rename_i e
    obtain ⟨rfl, rfl⟩ := e
    rw [ht]
    exact ⟨h1, h2⟩
  · exact hq⟩
theorem hT_sP {R : yR} {rg : Nat → Nat} {M : aM} {a k : Nat} {v : Option Nat} (h : hT R rg M) (ht : ∀ x : Int32, tyOk rg (a_n M) (ysl R (rg a) k) x v) : hT R rg (s_P M a k v) := ⟨h.1, fun c hc => by
  obtain ⟨q1, q2, q3⟩ := h.2 c hc
  refine ⟨q1, q2, fun j hj => ?_⟩
  have hq := q3 j hj
  show tyOk rg (a_n M) _ (a_I M c j) (up2 (a_P M) a k v c j)
  rw [up2_eq]
  split
  · rename_i e
    obtain ⟨rfl, rfl⟩ := e
    exact ht _
  · exact hq⟩
theorem Fr_sI {R : yR} {ms : Nat → Nat → Bool} {rg : Nat → Nat} {M0 M : aM} {a k : Nat} {x : Int32} (h : Fr R ms rg M0 M) (hm : ms (rg a) (ysi R (rg a) k) = true) : Fr R ms rg M0 (s_I M a k x) := by
  obtain ⟨h1, h2, h3, h4⟩ := h
  refine ⟨h1, h2, h3, fun c j hc => ?_⟩
  obtain ⟨q1, q2, q3⟩ := h4 c j hc
  refine ⟨?_, q2, q3⟩
  show up2 (a_I M) a k x c j = _
  rw [up2_eq, if_neg]
  · exact q1
  · rintro ⟨rfl, rfl⟩
    rw [hm] at hc
    cases hc
theorem Fr_sP {R : yR} {ms : Nat → Nat → Bool} {rg : Nat → Nat} {M0 M : aM} {a k : Nat} {v : Option Nat} (h : Fr R ms rg M0 M) (hm : ms (rg a) (ysi R (rg a) k) = true) : Fr R ms rg M0 (s_P M a k v) := by
  obtain ⟨h1, h2, h3, h4⟩ := h
  refine ⟨h1, h2, h3, fun c j hc => ?_⟩
  obtain ⟨q1, q2, q3⟩ := h4 c j hc
  refine ⟨q1, q2, ?_⟩
  show up2 (a_P M) a k v c j = _
  rw [up2_eq, if_neg]
  · exact q3
  · rintro ⟨rfl, rfl⟩
    rw [hm] at hc
    cases hc
theorem any_of {o : Option Nat} {r : Nat} (h : o = some r) : o.any (fun r' => Nat.beq r' r) = true := by rw [h]; exact Nat.beq_refl r
/-- what is left of the bindings is of other slots -/
theorem kill_ne {G : List Nat} {r k : Nat} {B : yB} {q : (Nat × Nat) × yV} {rg : Nat → Nat} {τ : List Nat} {n a c : Nat} (hq : q ∈ ykill G r k B) (hG : gG rg n G τ) (hn : n < aSB) (ha : a < n) (hr : rg a = r) (hc : τ[q.1.1]? = some c) : q ∈ B ∧ ¬ (c = a ∧ q.1.2 = k) := by
  obtain ⟨h1, h2⟩ := List.mem_filter.mp hq
  refine ⟨h1, ?_⟩
  rintro ⟨rfl, rfl⟩
  have hl : q.1.1 < G.length := by rw [hG.1]; exact (List.getElem?_eq_some_iff.mp hc).1
  have he : G[q.1.1]? = some G[q.1.1] := List.getElem?_eq_getElem hl
  rcases hG.2 _ _ _ he hc with ⟨_, _, e⟩ | ⟨e1, e2⟩
  · rw [any_of (show G[q.1.1]? = some r by rw [he, ← e, hr])] at h2
    simp at h2
  · omega
theorem kila_ne {G : List Nat} {r : Nat} {B : yB} {q : (Nat × Nat) × yV} {rg : Nat → Nat} {τ : List Nat} {n a c : Nat} (hq : q ∈ ykilA G r B) (hG : gG rg n G τ) (hn : n < aSB) (ha : a < n) (hr : rg a = r) (hc : τ[q.1.1]? = some c) : q ∈ B ∧ ¬ c = a := by
  obtain ⟨h1, h2⟩ := List.mem_filter.mp hq
  refine ⟨h1, ?_⟩
  rintro rfl
  have hl : q.1.1 < G.length := by rw [hG.1]; exact (List.getElem?_eq_some_iff.mp hc).1
  have he : G[q.1.1]? = some G[q.1.1] := List.getElem?_eq_getElem hl
  rcases hG.2 _ _ _ he hc with ⟨_, _, e⟩ | ⟨e1, e2⟩
  · rw [any_of (show G[q.1.1]? = some r by rw [he, ← e, hr])] at h2
    simp at h2
  · omega
theorem gB_I {B B' : yB} {ρ : List Int} {τ : List Nat} {M : aM} {a k : Nat} {x : Int32} (h : gB B ρ τ M) (hs : ∀ q ∈ B', ∀ c, τ[q.1.1]? = some c → q ∈ B ∧ ¬ (c = a ∧ q.1.2 = k)) (hB : ∀ q ∈ B', q ∈ B) : gB B' ρ τ (s_I M a k x) := fun q hq => by
  obtain ⟨c, h1, h2⟩ := h q (hB q hq)
  obtain ⟨_, h3⟩ := hs q hq c h1
  refine ⟨c, h1, ?_⟩
  show bOk ρ τ q.2 (up2 (a_I M) a k x c q.1.2) (a_P M c q.1.2)
  rw [up2_eq, if_neg h3]
  exact h2
theorem gB_P {B B' : yB} {ρ : List Int} {τ : List Nat} {M : aM} {a k : Nat} {v : Option Nat} (h : gB B ρ τ M) (hs : ∀ q ∈ B', ∀ c, τ[q.1.1]? = some c → q ∈ B ∧ ¬ (c = a ∧ q.1.2 = k)) (hB : ∀ q ∈ B', q ∈ B) : gB B' ρ τ (s_P M a k v) := fun q hq => by
  obtain ⟨c, h1, h2⟩ := h q (hB q hq)
  obtain ⟨_, h3⟩ := hs q hq c h1
  refine ⟨c, h1, ?_⟩
  show bOk ρ τ q.2 (a_I M c q.1.2) (up2 (a_P M) a k v c q.1.2)
  rw [up2_eq, if_neg h3]
  exact h2
theorem gB_cons {B : yB} {ρ : List Int} {τ : List Nat} {M : aM} {i k a : Nat} {s : yV} (h : gB B ρ τ M) (ha : τ[i]? = some a) (hb : bOk ρ τ s (a_I M a k) (a_P M a k)) : gB (((i, k), s) :: B) ρ τ M := fun q hq => by
  rcases List.mem_cons.mp hq with e | hq
  · rw [e]; exact ⟨a, ha, hb⟩
  · exact h q hq
theorem gG_new {rg : Nat → Nat} {n : Nat} {G τ : List Nat} {r a : Nat} (h : gG rg n G τ) (hr : (r < aSB ∧ a < n ∧ rg a = r) ∨ (aSB ≤ r ∧ a = r)) : gG rg n (G ++ [r]) (τ ++ [a]) := by
  refine ⟨by simp [h.1], fun j r' a' e1 e2 => ?_⟩
  by_cases hj : j < G.length
  · rw [List.getElem?_append_left hj] at e1
    rw [List.getElem?_append_left (h.1 ▸ hj)] at e2
    exact h.2 j r' a' e1 e2
  · have hj' : j = G.length := by
      have := (List.getElem?_eq_some_iff.mp e1).1
      simp at this
      omega
    subst hj'
    simp at e1
    rw [h.1] at e2
    simp at e2
    subst e1
    subst e2
    exact hr
theorem newG_at {rg : Nat → Nat} {n : Nat} {G τ : List Nat} {a : Nat} (h : gG rg n G τ) : (τ ++ [a])[G.length]? = some a := by rw [h.1]; simp
/-- the branch that is taken is among those told -/
theorem br_ok {R : yR} {ms : Nat → Nat → Bool} {rg : Nat → Nat} {M0 : aM} {E : yE} {G : List Nat} {B : yB} {l : yL} {s0 s : List yV} {pc f t nx : Nat} {p q : Nat × Int} {ρ : List Int} {τ : List Nat} {lo : aL} {st0 st : List aV} {M : aM} {x y : Int32} (h : gP R ms rg M0 (E, G, B, pc, l, s0) ρ τ lo st0 M) (hk : gK ρ τ s st) (hx : yv ρ τ (.inl p) (.inl x)) (hy : yv ρ τ (.inl q) (.inl y)) : ∃ P ∈ ybr G B l s (y_cml f E p q) (y_cml (cmpn f) E p q) t nx, P.2.2.2.1 = (bif cmpf f x y then t else nx) ∧ ∃ ρ2 τ2, gP R ms rg M0 P (ρ ++ ρ2) (τ ++ τ2) lo st M := by
  obtain ⟨⟨h1, h2, h3⟩, h4, h5, h6, h7⟩ := h
  unfold ybr
  cases hc : cmpf f x y with
  | true =>
    obtain ⟨E', e1, e2⟩ := y_cml_ok h1 hx hy hc
    exact ⟨_, List.mem_append_left _ (List.mem_map.mpr ⟨E', e1, rfl⟩), rfl, gP_self ⟨⟨e2, h2, h3⟩, h4, h5, h6, hk⟩⟩
  | false =>
    obtain ⟨E', e1, e2⟩ := y_cml_ok h1 hx hy (cmpn_ok hc)
    exact ⟨_, List.mem_append_right _ (List.mem_map.mpr ⟨E', e1, rfl⟩), rfl, gP_self ⟨⟨e2, h2, h3⟩, h4, h5, h6, hk⟩⟩
theorem yv0 {ρ : List Int} {τ : List Nat} (h : ρ[0]? = some 0) (x : Int32) : yv ρ τ (.inl (0, x.toInt)) (.inl x) := ⟨0, h, by show x.toInt = 0 + x.toInt; omega⟩

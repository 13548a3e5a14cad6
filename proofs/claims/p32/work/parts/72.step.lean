/-! Single instructions as data, and what they do to symbolic states. -/
abbrev aO : Type := Nat × Nat × Nat × Nat × Nat × Int32
def astf (g : Nat) : Int32 → Int32 := match g with
  | 0 => fun x => x
  | 1 => vp_nar .byte
  | _ => vp_nar .boolean
def nB (b : Nat) : Bool := Nat.beq b 1
/-- the switches' offsets -/
def tbs (k : Nat) : Array Int := match k with
  | 0 => #[54, 65, 76, 88, 96, 136, 104, 112, 120, 128]
  | 1 => #[38, 49, 60, 71, 82, 93]
  | _ => #[55, 63, 71, 104, 109, 146, 114, 122, 130, 138]
def semO (o : aO) : aI := match o with
  | (0, nx, _, _, _, x) => j_c nx x
  | (1, nx, i, _, _, _) => j_iload nx i
  | (2, nx, i, _, _, _) => j_aload nx i
  | (3, nx, i, _, _, _) => j_istore nx i
  | (4, nx, i, _, _, _) => j_astore nx i
  | (5, nx, i, _, _, x) => j_iinc nx i x
  | (6, nx, f, _, _, _) => j_bin nx (binf f)
  | (7, nx, f, _, _, _) => j_div nx (divf f)
  | (8, nx, f, _, _, _) => j_un nx (unf f)
  | (9, t, _, _, _, _) => j_goto t
  | (10, t, nx, f, _, _) => j_if (cmp0 f) t nx
  | (11, t, nx, f, _, _) => j_ifc (cmpf f) t nx
  | (12, nx, ci, k, t, _) => j_get nx ci k t
  | (13, nx, ci, k, b, _) => j_puti (nB b) nx ci k
  | (14, nx, ci, k, _, _) => j_putr nx ci k
  | (15, nx, kd, _, _, _) => j_ald nx kd
  | (16, nx, kd, g, _, _) => j_ast (astf g) nx kd
  | (17, nx, kd, _, _, _) => j_aald nx kd
  | (18, nx, _, _, _, _) => j_alen nx
  | (19, nx, _, _, _, _) => j_dup nx
  | (20, nx, _, _, _, _) => j_pop nx
  | (21, nx, _, _, _, _) => j_dup2 nx
  | (22, t, nx, _, _, _) => j_ifnull t nx
  | (23, nx, id, _, _, _) => j_str nx id
  | (24, b, _, _, _, _) => j_iret (nB b)
  | (25, _, _, _, _, _) => j_vret
  | (26, _, _, _, _, _) => j_aret
  | (27, y, ci, n, mx, _) => j_callv y ci n mx
  | (28, y, n, mx, _, _) => j_calls y n mx
  | (31, pc, hi, df, k, _) => j_tab pc 0 hi df (tbs k)
  | _ => fun _ _ _ => none
def yrm (i : Nat) : yL → yL
  | [] => []
  | q :: t => bif Nat.beq q.1 i then yrm i t else q :: yrm i t
theorem yrm_lk {i j : Nat} {s : yV} : ∀ {l : yL}, ylk j (yrm i l) = some s → j ≠ i ∧ ylk j l = some s
  | [], h => by cases h
  | q :: t, h => by
    unfold yrm at h
    cases hb : Nat.beq q.1 i with
    | true =>
      rw [hb] at h
      obtain ⟨h1, h2⟩ := yrm_lk (l := t) h
      refine ⟨h1, ?_⟩
      unfold ylk
      rw [nbF (fun e => h1 (e.symm.trans (nbT hb)))]
      exact h2
    | false =>
      rw [hb] at h
      unfold ylk at h ⊢
      simp only [cond_false] at h
      cases hj : Nat.beq q.1 j with
      | true =>
        rw [hj] at h
        refine ⟨fun e => ?_, h⟩
        rw [nbT hj, e] at hb
        simp at hb
      | false =>
        rw [hj] at h
        exact yrm_lk (l := t) h
theorem rml_lk {i j : Nat} {v : aV} (hv : isL v = false) (hj : j ≠ i) : ∀ {lo : aL}, lk j lo = some v → lk j (rml i lo) = some v
  | [], h => by cases h
  | q :: t, h => by
    unfold lk at h
    unfold rml
    cases hb : Nat.beq q.1 j with
    | true =>
      rw [hb] at h
      have hq : q.2 = v := Option.some.inj h
      have e1 : Nat.beq q.1 i = false := nbF (fun e => hj ((nbT hb).symm.trans e))
      rw [e1, hq, hv]
      simp only [Bool.and_false, Bool.or_false, cond_false]
      unfold lk
      rw [hb]
      exact h
    | false =>
      rw [hb] at h
      have ih := rml_lk hv hj (lo := t) h
      cases (Nat.beq q.1 i || (Nat.beq (q.1 + 1) i && isL q.2)) with
      | true => exact ih
      | false =>
        show lk j (q :: rml i t) = some v
        unfold lk
        rw [hb]
        exact ih
/-- no long here -/
def yni (s : yV) : Bool := match s with
  | .inr (.inl _) => false
  | _ => true
theorem yv_isL {ρ : List Int} {τ : List Nat} {s : yV} {v : aV} (h : yv ρ τ s v) (hn : yni s = true) : isL v = false := by
  rcases s with q | u | r <;> rcases v with x | y | p
  · rfl
  · exact h.elim
  · rfl
  · exact h.elim
  · cases hn
  · exact h.elim
  · rfl
  · rcases r with _ | j <;> exact h.elim
  · rfl
theorem ylk_filter {j : Nat} {s : yV} : ∀ {l : yL}, (∀ q ∈ l, yni q.2 = true) → ylk j l = some s → yni s = true
  | [], _, h => by cases h
  | q :: t, hl, h => by
    unfold ylk at h
    cases hb : Nat.beq q.1 j with
    | true =>
      rw [hb] at h
      have hq : q.2 = s := Option.some.inj h
      rw [← hq]
      exact hl q List.mem_cons_self
    | false =>
      rw [hb] at h
      exact ylk_filter (fun q' h' => hl q' (List.mem_cons_of_mem _ h')) h
/-- locals without a long -/
def yln (l : yL) : Bool := l.all (fun q => yni q.2)
theorem gL_st {l : yL} {ρ : List Int} {τ : List Nat} {lo : aL} {i : Nat} {s : yV} {v : aV} (hl : gL l ρ τ lo) (hn : yln l = true) (hv : yv ρ τ s v) : gL ((i, s) :: yrm i l) ρ τ ((i, v) :: rml i lo) := fun j s' h => by
  unfold ylk at h
  unfold lk
  simp only at h ⊢
  cases hb : Nat.beq i j with
  | true =>
    rw [hb] at h
    cases h
    exact ⟨v, rfl, hv⟩
  | false =>
    rw [hb] at h
    obtain ⟨h1, h2⟩ := yrm_lk h
    obtain ⟨w, w1, w2⟩ := hl j s' h2
    have hs : yni s' = true := ylk_filter (fun q hq => List.all_eq_true.mp hn q hq) h2
    exact ⟨w, rml_lk (yv_isL w2 hs) h1 w1, w2⟩
/-- a frame's part of a symbolic state -/
abbrev yP : Type := yE × List Nat × yB × Nat × yL × List yV
def gP (R : yR) (ms : Nat → Nat → Bool) (rg : Nat → Nat) (M0 : aM) (P : yP) (ρ : List Int) (τ : List Nat) (lo : aL) (st : List aV) (M : aM) : Prop :=
  (gE P.1 ρ ∧ gG rg (a_n M) P.2.1 τ ∧ ρ[0]? = some 0) ∧ gB P.2.2.1 ρ τ M ∧ (hT R rg M ∧ Fr R ms rg M0 M) ∧ gL P.2.2.2.2.1 ρ τ lo ∧ gK ρ τ P.2.2.2.2.2 st
/-- an instruction without a call: it goes on at one of these -/
def Sim (R : yR) (ms : Nat → Nat → Bool) (rg : Nat → Nat) (M0 : aM) (i : aI) (ρ : List Int) (τ : List Nat) (lo : aL) (st : List aV) (M : aM) (L : List yP) : Prop :=
  ∃ pc' lo' st' M', i lo st M = some (.inl (pc', lo', st', M')) ∧ ∃ P ∈ L, P.2.2.2.1 = pc' ∧ ∃ ρ2 τ2, gP R ms rg M0 P (ρ ++ ρ2) (τ ++ τ2) lo' st' M'
/-- an int comes onto the stack -/
theorem gP_int {R : yR} {ms : Nat → Nat → Bool} {rg : Nat → Nat} {M0 : aM} {E E' : yE} {G : List Nat} {B : yB} {pc pc' : Nat} {l : yL} {s0 s : List yV} {q : Nat × Int} {ρ : List Int} {τ : List Nat} {lo : aL} {st0 st : List aV} {M : aM} {x : Int32} (h : gP R ms rg M0 (E, G, B, pc, l, s0) ρ τ lo st0 M) (hk : gK ρ τ s st) (hi : yI E' q ρ x) : ∃ ρ2 τ2, gP R ms rg M0 (E', G, B, pc', l, .inl q :: s) (ρ ++ ρ2) (τ ++ τ2) lo (.inl x :: st) M := by
  obtain ⟨⟨h1, h2, h3⟩, h4, h5, h6, h7⟩ := h
  obtain ⟨ρ2, g1, z, g2, g3⟩ := hi
  refine ⟨ρ2, [], ⟨g1, by simpa using h2, app_at h3⟩, gB_mono ρ2 [] h4, h5, gL_mono ρ2 [] h6, ⟨z, g2, g3⟩, gK_mono ρ2 [] hk⟩
theorem gP_self {R : yR} {ms : Nat → Nat → Bool} {rg : Nat → Nat} {M0 : aM} {P : yP} {ρ : List Int} {τ : List Nat} {lo : aL} {st : List aV} {M : aM} (h : gP R ms rg M0 P ρ τ lo st M) : ∃ ρ2 τ2, gP R ms rg M0 P (ρ ++ ρ2) (τ ++ τ2) lo st M := ⟨[], [], by simpa using h⟩
theorem sim_1 {R : yR} {ms : Nat → Nat → Bool} {rg : Nat → Nat} {M0 : aM} {i : aI} {ρ : List Int} {τ : List Nat} {lo lo' : aL} {st st' : List aV} {M M' : aM} {P : yP} (he : i lo st M = some (.inl (P.2.2.2.1, lo', st', M'))) (h : ∃ ρ2 τ2, gP R ms rg M0 P (ρ ++ ρ2) (τ ++ τ2) lo' st' M') : Sim R ms rg M0 i ρ τ lo st M [P] := ⟨_, _, _, _, he, P, List.mem_cons_self, rfl, h⟩
theorem inv_int {ρ : List Int} {τ : List Nat} {q : Nat × Int} {v : aV} (h : yv ρ τ (.inl q) v) : ∃ x, v = .inl x := by
  rcases v with x | x | r
  · exact ⟨x, rfl⟩
  · exact h.elim
  · exact h.elim
theorem inv_ref {ρ : List Int} {τ : List Nat} {j : Nat} {v : aV} (h : yv ρ τ (.inr (.inr (some j))) v) : ∃ a, v = .inr (.inr (some a)) ∧ τ[j]? = some a := by
  rcases v with x | x | _ | a
  · exact h.elim
  · exact h.elim
  · exact h.elim
  · exact ⟨a, rfl, h⟩
theorem inv_null {ρ : List Int} {τ : List Nat} {v : aV} (h : yv ρ τ (.inr (.inr none)) v) : v = .inr (.inr none) := by
  rcases v with x | x | _ | a
  · exact h.elim
  · exact h.elim
  · rfl
  · exact h.elim
theorem gK_cons {ρ : List Int} {τ : List Nat} {s : yV} {t : List yV} {st : List aV} (h : gK ρ τ (s :: t) st) : ∃ v w, st = v :: w ∧ yv ρ τ s v ∧ gK ρ τ t w := by
  rcases st with _ | ⟨v, w⟩
  · exact h.elim
  · exact ⟨v, w, rfl, h.1, h.2⟩
theorem gK_nil {ρ : List Int} {τ : List Nat} {st : List aV} (h : gK ρ τ [] st) : st = [] := by
  rcases st with _ | ⟨v, w⟩
  · rfl
  · exact h.elim

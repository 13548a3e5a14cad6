/-! Switches. -/
/-- a switch from 0 up to hi: where it may go on -/
def ytb1 (G : List Nat) (B : yB) (mid pc : Nat) (lo : yL) (w : List yV) (fs : List yF) (q : Nat × Int) (hi df k : Nat) (E : yE) : List yS :=
  ((y_cmp 0 E q (0, 0)).toList.map (fun E' => (E', G, B, (mid, ((pc : Int) + df).toNat, lo, w) :: fs))) ++ ((y_cmp 3 E q (0, (hi : Int))).toList.map (fun E' => (E', G, B, (mid, ((pc : Int) + df).toNat, lo, w) :: fs))) ++ (List.range (hi + 1)).flatMap (fun (v : Nat) => (y_cmp 1 E q (0, (v : Int))).toList.map (fun E' => (E', G, B, (mid, ((pc : Int) + (tbs k).getD v 0).toNat, lo, w) :: fs)))
def ystq (R : yR) (ms : Nat → Nat → Bool) (D : Nat) (ct : Nat → Nat → Option aO) (S : yS) : Option (List yS) := match S with
  | (E, G, B, (mid, pc, lo, st) :: fs) => match ct mid pc with
    | some (31, p, hi, df, k, _) => (match st with
      | .inl q :: w => bif Nat.beq (tbs k).size (hi + 1) && Nat.blt hi 1000 then some (ytb1 G B mid p lo w fs q hi df k E) else none
      | _ => none)
    | _ => ystp R ms D ct S
  | _ => none
theorem ofN_i {n : Nat} (h : n < 1000) : (Int32.ofNat n).toInt = (n : Int) := Int32.toInt_ofNat_of_lt (by omega)
theorem tab_j {pc hi df k : Nat} {x : Int32} {lo : aL} {s : List aV} {M : aM} {t : Nat} (hsz : (tbs k).size = hi + 1) (h : (x.toInt < 0 ∨ (hi : Int) < x.toInt) ∧ t = ((pc : Int) + df).toNat ∨ ∃ v : Nat, v < hi + 1 ∧ x.toInt = (v : Int) ∧ t = ((pc : Int) + (tbs k).getD v 0).toNat) : j_tab pc 0 hi df (tbs k) lo (.inl x :: s) M = some (.inl (t, lo, s, M)) := by
  unfold j_tab
  simp only
  rcases h with ⟨h1, h2⟩ | ⟨v, h1, h2, h3⟩
  · rw [if_pos h1, h2]
  · rw [if_neg (by omega)]
    have e : (x.toInt - 0).toNat = v := by omega
    rw [e]
    have hv : v < (tbs k).size := by omega
    rw [Array.getElem?_eq_getElem hv]
    simp only
    rw [h3]
    congr 4
    rw [Array.getD_eq_getD_getElem?, Array.getElem?_eq_getElem hv]
    rfl
theorem ystq_ok {cd : Nat → Nat → Option aI} {R : yR} {ms : Nat → Nat → Bool} {rg : Nat → Nat} {M0 : aM} {D : Nat} {ct : Nat → Nat → Option aO} (hct : ∀ m p o, ct m p = some o → cd m p = some (semO o)) {S : yS} {L : List yS} {ρ : List Int} {τ : List Nat} {X : aSt} (e : ystq R ms D ct S = some L) (h : gam R ms rg M0 D S ρ τ X) : ySt cd R ms rg M0 D ρ τ X L := by
  unfold ystq at e
  split at e
  · rename_i E G B mid pc lo st fs
    split at e
    · rename_i p hi df k _ ho
      split at e
      · rename_i q w
        obtain ⟨e1, e2⟩ := bifE e
        subst e2
        obtain ⟨e3, e4⟩ := (Bool.and_eq_true _ _).mp e1
        have e3 := nbT e3
        have e4 := blt_lt e4
        obtain ⟨d, cfs, mid', pc', clo, cst, M⟩ := X
        obtain ⟨⟨h1, h1b, h1c⟩, h2, h3, h4, ⟨q1, q2, q3, q4⟩, q5⟩ := h
        simp only at h1 h1b h1c h2 h3 h4 q1 q2 q3 q4 q5
        subst q1
        subst q2
        obtain ⟨v, w1, rfl, v1, v2⟩ := gK_cons q4
        obtain ⟨x, rfl⟩ := inv_int v1
        have y0 : yv ρ τ (.inl (0, 0)) (.inl 0) := yv0 h1c 0
        have hlist : ∃ t, j_tab p 0 hi df (tbs k) clo (.inl x :: w1) M = some (.inl (t, clo, w1, M)) ∧ ∃ E', (E', G, B, (mid, t, lo, w) :: fs) ∈ ytb1 G B mid p lo w fs q hi df k E ∧ gE E' ρ := by
          unfold ytb1
          by_cases c1 : x.toInt < 0
          · have hc : cmpf 0 x 0 = true := decide_eq_true (Int32.lt_iff_toInt_lt.mpr c1)
            obtain ⟨E', a1, a2⟩ := y_cmp_ok h1 v1 y0 hc
            exact ⟨_, tab_j e3 (Or.inl ⟨Or.inl c1, rfl⟩), E', List.mem_append_left _ (List.mem_append_left _ (List.mem_map.mpr ⟨E', by rw [a1]; exact List.mem_cons_self, rfl⟩)), a2⟩
          · by_cases c2 : (hi : Int) < x.toInt
            · have yh : yv ρ τ (.inl (0, (hi : Int))) (.inl (Int32.ofNat hi)) := ⟨0, h1c, by rw [ofN_i e4]; omega⟩
              have hc : cmpf 3 x (Int32.ofNat hi) = true := decide_eq_true (Int32.lt_iff_toInt_lt.mpr (by rw [ofN_i e4]; exact c2))
              obtain ⟨E', a1, a2⟩ := y_cmp_ok h1 v1 yh hc
              exact ⟨_, tab_j e3 (Or.inl ⟨Or.inr c2, rfl⟩), E', List.mem_append_left _ (List.mem_append_right _ (List.mem_map.mpr ⟨E', by rw [a1]; exact List.mem_cons_self, rfl⟩)), a2⟩
            · have hv : x.toInt = ((x.toInt.toNat : Nat) : Int) := by omega
              have hvl : x.toInt.toNat < hi + 1 := by omega
              have yh : yv ρ τ (.inl (0, ((x.toInt.toNat : Nat) : Int))) (.inl x) := ⟨0, h1c, by omega⟩
              have hc : cmpf 1 x x = true := decide_eq_true rfl
              obtain ⟨E', a1, a2⟩ := y_cmp_ok h1 v1 yh hc
              exact ⟨_, tab_j e3 (Or.inr ⟨x.toInt.toNat, hvl, hv, rfl⟩), E', List.mem_append_right _ (List.mem_flatMap.mpr ⟨x.toInt.toNat, List.mem_range.mpr hvl, List.mem_map.mpr ⟨E', by rw [a1]; exact List.mem_cons_self, rfl⟩⟩), a2⟩
        obtain ⟨t, t1, E', t2, t3⟩ := hlist
        refine ⟨_, step_go (hct _ _ _ ho) t1, _, t2, gam_self ⟨⟨t3, h1b, h1c⟩, h2, h3, h4, ⟨rfl, rfl, q3, v2⟩, q5⟩⟩
      · cases e
    · exact ystp_ok hct e h
  · cases e

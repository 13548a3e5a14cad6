/-! The class's reading: printed by wip/gen/clspb.py -/
theorem Ty_1 {t0 : Nat} {M : aM} {k : Nat} {v : Int32} (ht : t4 t0) (hv : isB v = true ∨ k < 10 ∨ 12 < k) (h : Ty t0 M) : Ty t0 (s_I M 1 k v) := by
  have ht : t0 = 4 ∨ t0 = 101 := ht
  obtain ⟨⟨t1, t2, t3⟩, t4, t5⟩ := h
  have e : ∀ j q, a_I (s_I M 1 k v) (t0 + j) q = a_I M (t0 + j) q := fun j q => aI_nk (fun w => by omega)
  have e0 : ∀ q, a_I (s_I M 1 k v) t0 q = a_I M t0 q := fun q => aI_nk (fun w => by omega)
  have b : ∀ j, 10 ≤ j → j ≤ 12 → isB (a_I M 1 j) = true → isB (a_I (s_I M 1 k v) 1 j) = true := fun j hj hj2 h => by
    rw [aI_sI]
    by_cases c : j = k
    · rw [if_pos ⟨rfl, c⟩]
      rcases hv with h | h
      · exact h
      · omega
    · rw [if_neg (fun q => c q.2)]; exact h
  refine ⟨⟨b 10 (by omega) (by omega) t1, b 11 (by omega) (by omega) t2, b 12 (by omega) (by omega) t3⟩, ?_, fun q hq => ?_⟩
  · rw [e0, e0]; exact t4
  · rw [e, e]; exact t5 q hq
theorem Ty_0 {t0 : Nat} {M : aM} {k : Nat} {v : Int32} (ht : t4 t0) (hv : (0 ≤ v.toInt ∧ v.toInt ≤ 4) ∨ k < 10) (h : Ty t0 M) : Ty t0 (s_I M t0 k v) := by
  have ht : t0 = 4 ∨ t0 = 101 := ht
  obtain ⟨t1, ⟨t2, t3⟩, t5⟩ := h
  have e1 : ∀ q, a_I (s_I M t0 k v) 1 q = a_I M 1 q := fun q => aI_nk (fun w => by omega)
  have e : ∀ j q, 1 ≤ j → a_I (s_I M t0 k v) (t0 + j) q = a_I M (t0 + j) q := fun j q hj => aI_nk (fun w => by omega)
  have b : ∀ j, 10 ≤ j → (0 ≤ (a_I M t0 j).toInt ∧ (a_I M t0 j).toInt ≤ 4) → (0 ≤ (a_I (s_I M t0 k v) t0 j).toInt ∧ (a_I (s_I M t0 k v) t0 j).toInt ≤ 4) := fun j hj h => by
    rw [aI_sI]
    by_cases c : j = k
    · rw [if_pos ⟨rfl, c⟩]
      rcases hv with h | h
      · exact h
      · omega
    · rw [if_neg (fun q => c q.2)]; exact h
  refine ⟨?_, ⟨b 10 (by omega) t2, b 11 (by omega) t3⟩, fun q hq => ?_⟩
  · rw [e1, e1, e1]; exact t1
  · rw [e 10 q (by omega), e 11 q (by omega)]; exact t5 q hq
theorem Ty_t {t0 : Nat} {M : aM} {j k : Nat} {v : Int32} (ht : t4 t0) (h1 : 1 ≤ j) (hj : j < 12) (hv : isB v = true ∨ j < 10) (h : Ty t0 M) : Ty t0 (s_I M (t0 + j) k v) := by
  have ht : t0 = 4 ∨ t0 = 101 := ht
  obtain ⟨t1, t2, t5⟩ := h
  have e1 : ∀ q, a_I (s_I M (t0 + j) k v) 1 q = a_I M 1 q := fun q => aI_nk (fun w => by omega)
  have e0 : ∀ q, a_I (s_I M (t0 + j) k v) t0 q = a_I M t0 q := fun q => aI_nk (fun w => by omega)
  have b : ∀ i q, 10 ≤ i → isB (a_I M (t0 + i) q) = true → isB (a_I (s_I M (t0 + j) k v) (t0 + i) q) = true := fun i q hi h => by
    rw [aI_sI]
    by_cases c : t0 + i = t0 + j ∧ q = k
    · rw [if_pos c]
      rcases hv with h | h
      · exact h
      · omega
    · rw [if_neg c]; exact h
  refine ⟨?_, ?_, fun q hq => ?_⟩
  · rw [e1, e1, e1]; exact t1
  · rw [e0, e0]; exact t2
  · exact ⟨rfl, rfl⟩
/-- ahead of a reading -/
def PrC (t0 : Nat) (B : Nat → Int) (M0 M : aM) : Prop := nv_A nvC (tauC t0) M ∧ (∀ k, k < 700 → (a_I M 3 k &&& 255).toInt = B k) ∧ t4 t0 ∧ eqE (fT t0) M0 M ∧ Ty t0 M
theorem Pr_by {B : Nat → Int} {M : aM} {a k : Nat} {v : Int32} (h3 : a ≠ 3) (h : ∀ k, k < 700 → (a_I M 3 k &&& 255).toInt = B k) : ∀ j, j < 700 → (a_I (s_I M a k v) 3 j &&& 255).toInt = B j := fun j hj => by
  rw [aI_nk (fun q => h3 q.1.symm)]; exact h j hj
theorem Pr_1 {t0 : Nat} {B : Nat → Int} {M0 M : aM} {k : Nat} {v : Int32} (h5 : 5 ≤ k) (hk : k ≤ 14) (hv : isB v = true ∨ k < 10 ∨ 12 < k) (P : PrC t0 B M0 M) : PrC t0 B M0 (s_I M 1 k v) := ⟨nv_As P.1, Pr_by (by decide) P.2.1, P.2.2.1, eqE_s P.2.2.2.1 (fT_1 h5 hk), Ty_1 P.2.2.1 hv P.2.2.2.2⟩
theorem Pr_0 {t0 : Nat} {B : Nat → Int} {M0 M : aM} {k : Nat} {v : Int32} (hv : (0 ≤ v.toInt ∧ v.toInt ≤ 4) ∨ k < 10) (P : PrC t0 B M0 M) : PrC t0 B M0 (s_I M t0 k v) := ⟨nv_As P.1, Pr_by (by rcases P.2.2.1 with e | e <;> omega) P.2.1, P.2.2.1, eqE_s P.2.2.2.1 (fT_t (j := 0) (by omega)), Ty_0 P.2.2.1 hv P.2.2.2.2⟩
theorem Pr_t {t0 : Nat} {B : Nat → Int} {M0 M : aM} {j k : Nat} {v : Int32} (h1 : 1 ≤ j) (hj : j < 12) (hv : isB v = true ∨ j < 10) (P : PrC t0 B M0 M) : PrC t0 B M0 (s_I M (t0 + j) k v) := ⟨nv_As P.1, Pr_by (by rcases P.2.2.1 with e | e <;> omega) P.2.1, P.2.2.1, eqE_s P.2.2.2.1 (fT_t hj), Ty_t P.2.2.1 h1 hj hv P.2.2.2.2⟩
/-- the told shop's arrays -/
def fP (t0 a _k : Nat) : Bool := Nat.ble (t0 + 1) a && Nat.ble a (t0 + 11)
theorem fP_t {t0 j k : Nat} (h1 : 1 ≤ j) (hj : j < 12) : fP t0 (t0 + j) k = true := by
  unfold fP
  rw [show Nat.ble (t0 + 1) (t0 + j) = true from Nat.ble_eq_true_of_le (by omega), show Nat.ble (t0 + j) (t0 + 11) = true from Nat.ble_eq_true_of_le (by omega)]
  rfl
theorem fP_0 {t0 k : Nat} : fP t0 t0 k = false := by
  unfold fP
  cases hb : Nat.ble (t0 + 1) t0 with
  | false => rfl
  | true => have := Nat.le_of_ble_eq_true hb; omega
set_option maxHeartbeats 4000000 in
theorem c_peL {cd : Nat → Nat → Option aI} {z : Bool} (hz : ∀ m p i, cd0 z m p = some i → cd m p = some i) {t0 : Nat} {B : Nat → Int} {M0 Mz : aM} {d : Nat} : ∀ (f : Nat) {j : Nat} {i : Int32} {M : aM}, 30 - j = f → j ≤ 30 → i.toInt = (j : Int) → PrC t0 B M0 M → eqE (fP t0) Mz M → wpS cd (nv_S (tauC t0) (d, [], 48, 2, [(1, .inl i), (0, .inr (.inr (some 307)))], [], M)) (fun r M' => r = none ∧ PrC t0 B M0 M' ∧ eqE (fP t0) Mz M') := by
  have hct := hc_of hz
  intro f
  induction f with
  | zero =>
    intro j i M h1 h2 hi P Q
    refine nv_cut hct nvC 48 5 5 (S' := (d, [], 48, 5, [(1, .inl i), (0, .inr (.inr (some 307)))], [.inl (30 : Int32), .inl i], M)) P.1 rfl ?_
    refine nv_ifc hct true rfl (ccT4 hi (show ((30 : Int32)).toInt = 30 from rfl) (by omega)) ?_
    exact nv_vret hct rfl ⟨rfl, P, Q⟩
  | succ f ih =>
    intro j i M h1 h2 hi P Q
    refine nv_cut hct nvC 48 5 5 (S' := (d, [], 48, 5, [(1, .inl i), (0, .inr (.inr (some 307)))], [.inl (30 : Int32), .inl i], M)) P.1 rfl ?_
    refine nv_ifc hct false rfl (ccF4 hi (show ((30 : Int32)).toInt = 30 from rfl) (by omega)) ?_
    refine nv_cut hct nvC 48 14 7 (S' := (d, [], 48, 14, [(1, .inl i), (0, .inr (.inr (some 307)))], [.inl (1 : Int32), .inl i, .inr (.inr (some 308))], M)) P.1 rfl ?_
    refine nv_ast hct P.1 rfl (show nvC.1 308 = 15 + 1 from rfl) (show nvC.2.1 308 = 30 + 1 from rfl) (inb_p hi (by omega)) ?_
    rw [tnc hi]
    refine nv_cut hct nvC 48 21 7 (S' := (d, [], 48, 21, [(1, .inl i), (0, .inr (.inr (some 307)))], [.inl (0 : Int32), .inl i, .inr (.inr (some 309))], (s_I M (t0 + 8) j (1 : Int32)))) (nv_As P.1) rfl ?_
    refine nv_ast hct (nv_As P.1) rfl (show nvC.1 309 = 15 + 1 from rfl) (show nvC.2.1 309 = 30 + 1 from rfl) (inb_p hi (by omega)) ?_
    rw [tnc hi]
    refine nv_cut hct nvC 48 28 7 (S' := (d, [], 48, 28, [(1, .inl i), (0, .inr (.inr (some 307)))], [.inl (0 : Int32), .inl i, .inr (.inr (some 310))], (s_I (s_I M (t0 + 8) j (1 : Int32)) (t0 + 9) j (0 : Int32)))) (nv_As (nv_As P.1)) rfl ?_
    refine nv_ast hct (nv_As (nv_As P.1)) rfl (show nvC.1 310 = 17 + 1 from rfl) (show nvC.2.1 310 = 30 + 1 from rfl) (inb_p hi (by omega)) ?_
    rw [tnc hi]
    refine nv_cut hct nvC 48 35 7 (S' := (d, [], 48, 35, [(1, .inl i), (0, .inr (.inr (some 307)))], [.inl (0 : Int32), .inl i, .inr (.inr (some 311))], (s_I (s_I (s_I M (t0 + 8) j (1 : Int32)) (t0 + 9) j (0 : Int32)) (t0 + 10) j (astf 2 (0 : Int32))))) (nv_As (nv_As (nv_As P.1))) rfl ?_
    refine nv_ast hct (nv_As (nv_As (nv_As P.1))) rfl (show nvC.1 311 = 17 + 1 from rfl) (show nvC.2.1 311 = 30 + 1 from rfl) (inb_p hi (by omega)) ?_
    rw [tnc hi]
    refine nv_cut hct nvC 48 2 5 (S' := (d, [], 48, 2, [(1, .inl (i + 1)), (0, .inr (.inr (some 307)))], [], (s_I (s_I (s_I (s_I M (t0 + 8) j (1 : Int32)) (t0 + 9) j (0 : Int32)) (t0 + 10) j (astf 2 (0 : Int32))) (t0 + 11) j (astf 2 (0 : Int32))))) (nv_As (nv_As (nv_As (nv_As P.1)))) rfl ?_
    exact ih (j := j + 1) (by omega) (by omega) (by rw [add_p hi (by omega) (by omega)]; omega) (Pr_t (j := 11) (by decide) (by decide) (Or.inl (by decide)) (Pr_t (j := 10) (by decide) (by decide) (Or.inl (by decide)) (Pr_t (j := 9) (by decide) (by decide) (Or.inr (by decide)) (Pr_t (j := 8) (by decide) (by decide) (Or.inr (by decide)) P)))) (eqE_s (eqE_s (eqE_s (eqE_s Q (fP_t (j := 8) (by decide) (by decide))) (fP_t (j := 9) (by decide) (by decide))) (fP_t (j := 10) (by decide) (by decide))) (fP_t (j := 11) (by decide) (by decide)))
set_option maxHeartbeats 4000000 in
theorem c_pe {cd : Nat → Nat → Option aI} {z : Bool} (hz : ∀ m p i, cd0 z m p = some i → cd m p = some i) {t0 : Nat} {B : Nat → Int} {M0 M Mz : aM} (P : PrC t0 B M0 M) (Q : eqE (fP t0) Mz M) {d : Nat} : wpS cd (d, [], 48, 0, nv_l (tauC t0) (la 0 [.inr (.inr (some 307))]), [], M) (fun r M' => r = none ∧ PrC t0 B M0 M' ∧ eqE (fP t0) Mz M') := by
  show wpS cd (nv_S (tauC t0) (d, [], 48, 0, la 0 [.inr (.inr (some 307))], [], M)) _
  have hct := hc_of hz
  refine nv_cut hct nvC 48 2 5 (S' := (d, [], 48, 2, [(1, .inl (0 : Int32)), (0, .inr (.inr (some 307)))], [], M)) P.1 rfl ?_
  exact c_peL hz _ (j := 0) rfl (by omega) rfl P Q
set_option maxHeartbeats 4000000 in
theorem c_seL {cd : Nat → Nat → Option aI} {z : Bool} (hz : ∀ m p i, cd0 z m p = some i → cd m p = some i) {t0 : Nat} {B : Nat → Int} {M0 Mz : aM} {d : Nat} : ∀ (f : Nat) {j : Nat} {i : Int32} {M : aM}, 30 - j = f → j ≤ 30 → i.toInt = (j : Int) → PrC t0 B M0 M → eqE (fP t0) Mz M → wpS cd (nv_S (tauC t0) (d + 1, [], 81, 17, [(1, .inl i), (0, .inr (.inr (some 300)))], [], M)) (fun r M' => r = none ∧ PrC t0 B M0 M' ∧ eqE (fP t0) Mz M') := by
  have hct := hc_of hz
  intro f
  induction f with
  | zero =>
    intro j i M h1 h2 hi P Q
    refine nv_cut hct nvC 81 20 5 (S' := (d + 1, [], 81, 20, [(1, .inl i), (0, .inr (.inr (some 300)))], [.inl (30 : Int32), .inl i], M)) P.1 rfl ?_
    refine nv_ifc hct true rfl (ccT4 hi (show ((30 : Int32)).toInt = 30 from rfl) (by omega)) ?_
    refine nv_cut hct nvC 48 0 6 (S' := (d, [(81, 50, [(1, .inl i), (0, .inr (.inr (some 300)))], [])], 48, 0, la 0 [.inr (.inr (some 307))], [], M)) P.1 rfl ?_
    refine nv_callv (c_pe hz P Q) (fun M1 ⟨P1, Q1⟩ => ?_)
    exact nv_vret hct rfl ⟨rfl, P1, Q1⟩
  | succ f ih =>
    intro j i M h1 h2 hi P Q
    refine nv_cut hct nvC 81 20 5 (S' := (d + 1, [], 81, 20, [(1, .inl i), (0, .inr (.inr (some 300)))], [.inl (30 : Int32), .inl i], M)) P.1 rfl ?_
    refine nv_ifc hct false rfl (ccF4 hi (show ((30 : Int32)).toInt = 30 from rfl) (by omega)) ?_
    refine nv_cut hct nvC 81 29 7 (S' := (d + 1, [], 81, 29, [(1, .inl i), (0, .inr (.inr (some 300)))], [.inl (0 : Int32), .inl i, .inr (.inr (some 304))], M)) P.1 rfl ?_
    refine nv_ast hct P.1 rfl (show nvC.1 304 = 15 + 1 from rfl) (show nvC.2.1 304 = 30 + 1 from rfl) (inb_p hi (by omega)) ?_
    rw [tnc hi]
    refine nv_cut hct nvC 81 36 7 (S' := (d + 1, [], 81, 36, [(1, .inl i), (0, .inr (.inr (some 300)))], [.inl (0 : Int32), .inl i, .inr (.inr (some 305))], (s_I M (t0 + 4) j (0 : Int32)))) (nv_As P.1) rfl ?_
    refine nv_ast hct (nv_As P.1) rfl (show nvC.1 305 = 15 + 1 from rfl) (show nvC.2.1 305 = 30 + 1 from rfl) (inb_p hi (by omega)) ?_
    rw [tnc hi]
    refine nv_cut hct nvC 81 17 5 (S' := (d + 1, [], 81, 17, [(1, .inl (i + 1)), (0, .inr (.inr (some 300)))], [], (s_I (s_I M (t0 + 4) j (0 : Int32)) (t0 + 5) j (0 : Int32)))) (nv_As (nv_As P.1)) rfl ?_
    exact ih (j := j + 1) (by omega) (by omega) (by rw [add_p hi (by omega) (by omega)]; omega) (Pr_t (j := 5) (by decide) (by decide) (Or.inr (by decide)) (Pr_t (j := 4) (by decide) (by decide) (Or.inr (by decide)) P)) (eqE_s (eqE_s Q (fP_t (j := 4) (by decide) (by decide))) (fP_t (j := 5) (by decide) (by decide)))
set_option maxHeartbeats 4000000 in
theorem c_se {cd : Nat → Nat → Option aI} {z : Bool} (hz : ∀ m p i, cd0 z m p = some i → cd m p = some i) {t0 : Nat} {B : Nat → Int} {M0 M : aM} (P : PrC t0 B M0 M) {d : Nat} : wpS cd (d + 1, [], 81, 0, nv_l (tauC t0) (la 0 [.inr (.inr (some 300))]), [], M) (fun r M' => r = none ∧ PrC t0 B M0 M' ∧ a_I M' t0 10 = 0 ∧ a_I M' t0 11 = 0) := by
  show wpS cd (nv_S (tauC t0) (d + 1, [], 81, 0, la 0 [.inr (.inr (some 300))], [], M)) _
  have hct := hc_of hz
  refine nv_cut hct nvC 81 17 14 (S' := (d + 1, [], 81, 17, [(1, .inl (0 : Int32)), (0, .inr (.inr (some 300)))], [], (s_I (s_I (s_I M t0 0 (0 : Int32)) t0 10 (0 : Int32)) t0 11 (0 : Int32)))) P.1 rfl ?_
  have P1 : PrC t0 B M0 (s_I (s_I (s_I M t0 0 (0 : Int32)) t0 10 (0 : Int32)) t0 11 (0 : Int32)) := Pr_0 (Or.inl (by decide)) (Pr_0 (Or.inl (by decide)) (Pr_0 (Or.inr (by decide)) P))
  refine wpS_mono (c_seL hz _ (j := 0) rfl (by omega) rfl P1 eqE_rf) (fun r M1 h => ?_)
  obtain ⟨h1, h2, h3⟩ := h
  refine ⟨h1, h2, ?_, ?_⟩
  · rw [h3.2.2 _ _ fP_0, aI_nk (fun q => by omega), aI_at]
  · rw [h3.2.2 _ _ fP_0, aI_at]
/-- the limit as well -/
def fL (t0 a k : Nat) : Bool := fT t0 a k || (Nat.beq a 2 && Nat.beq k 2)
theorem fT_L {t0 : Nat} {M M1 : aM} (h : eqE (fT t0) M M1) : eqE (fL t0) M M1 := eqE_up h (fun a k q => ((Bool.or_eq_false_iff).mp q).1)
theorem fL_2 {t0 k : Nat} (h : k = 2 ∨ k = 3) : fL t0 2 k = true := by
  rcases h with e | e
  · subst e; unfold fL; rw [show (Nat.beq 2 2 && Nat.beq 2 2) = true from rfl, Bool.or_true]
  · subst e; rfl
set_option maxHeartbeats 4000000 in
theorem c_begin {cd : Nat → Nat → Option aI} {z : Bool} (hz : ∀ m p i, cd0 z m p = some i → cd m p = some i) {t0 : Nat} {B : Nat → Int} {lim : Nat} {M : aM} (P : PrC t0 B M M) {x : Int32} (hx : x.toInt = (lim : Int)) (hl : lim ≤ 700) {d : Nat} : wpS cd (d + 3, [], 53, 0, nv_l (tauC t0) (la 0 [.inr (.inr (some 1)), .inl x]), [], M) (fun r M' => r = none ∧ RdC t0 B lim M' M' (.inl 0) ∧ KC t0 B lim M' L0 ∧ eqE (fL t0) M M') := by
  show wpS cd (nv_S (tauC t0) (d + 3, [], 53, 0, la 0 [.inr (.inr (some 1)), .inl x], [], M)) _
  have hct := hc_of hz
  have ht4 : t0 = 4 ∨ t0 = 101 := P.2.2.1
  refine nv_cut hct nvC 81 0 6 (S' := (d + 2, [(53, 7, [(0, .inr (.inr (some 1))), (1, .inl x)], [])], 81, 0, la 0 [.inr (.inr (some 300))], [], M)) P.1 rfl ?_
  refine nv_callv (c_se hz P) (fun M1 ⟨P1, z10, z11⟩ => ?_)
  refine nv_cut hct nvC 89 0 37 (S' := (d + 2, [(53, 65, [(0, .inr (.inr (some 1))), (1, .inl x)], [])], 89, 0, la 0 [.inr (.inr (some 2)), .inl x], [], (s_I (s_I (s_I (s_I (s_I (s_I (s_I (s_I (s_I (s_I M1 1 5 (0 : Int32)) 1 6 (0 : Int32)) 1 7 (0 : Int32)) 1 8 (-1 : Int32)) 1 9 (-1 : Int32)) 1 10 (0 : Int32)) 1 11 (0 : Int32)) 1 12 (0 : Int32)) 1 13 (0 : Int32)) 1 14 (-1 : Int32)))) P1.1 rfl ?_
  have P2 : PrC t0 B M (s_I (s_I (s_I (s_I (s_I (s_I (s_I (s_I (s_I (s_I M1 1 5 (0 : Int32)) 1 6 (0 : Int32)) 1 7 (0 : Int32)) 1 8 (-1 : Int32)) 1 9 (-1 : Int32)) 1 10 (0 : Int32)) 1 11 (0 : Int32)) 1 12 (0 : Int32)) 1 13 (0 : Int32)) 1 14 (-1 : Int32)) := (Pr_1 (by decide) (by decide) (Or.inr (Or.inr (by decide))) (Pr_1 (by decide) (by decide) (Or.inr (Or.inr (by decide))) (Pr_1 (by decide) (by decide) (Or.inl rfl) (Pr_1 (by decide) (by decide) (Or.inl rfl) (Pr_1 (by decide) (by decide) (Or.inl rfl) (Pr_1 (by decide) (by decide) (Or.inr (Or.inl (by decide))) (Pr_1 (by decide) (by decide) (Or.inr (Or.inl (by decide))) (Pr_1 (by decide) (by decide) (Or.inr (Or.inl (by decide))) (Pr_1 (by decide) (by decide) (Or.inr (Or.inl (by decide))) (Pr_1 (by decide) (by decide) (Or.inr (Or.inl (by decide))) P1))))))))))
  have y5 : a_I (s_I (s_I (s_I (s_I (s_I (s_I (s_I (s_I (s_I (s_I M1 1 5 (0 : Int32)) 1 6 (0 : Int32)) 1 7 (0 : Int32)) 1 8 (-1 : Int32)) 1 9 (-1 : Int32)) 1 10 (0 : Int32)) 1 11 (0 : Int32)) 1 12 (0 : Int32)) 1 13 (0 : Int32)) 1 14 (-1 : Int32)) 1 5 = 0 := by rw [aI_nk (fun q => by omega), aI_nk (fun q => by omega), aI_nk (fun q => by omega), aI_nk (fun q => by omega), aI_nk (fun q => by omega), aI_nk (fun q => by omega), aI_nk (fun q => by omega), aI_nk (fun q => by omega), aI_nk (fun q => by omega), aI_at]
  have y6 : a_I (s_I (s_I (s_I (s_I (s_I (s_I (s_I (s_I (s_I (s_I M1 1 5 (0 : Int32)) 1 6 (0 : Int32)) 1 7 (0 : Int32)) 1 8 (-1 : Int32)) 1 9 (-1 : Int32)) 1 10 (0 : Int32)) 1 11 (0 : Int32)) 1 12 (0 : Int32)) 1 13 (0 : Int32)) 1 14 (-1 : Int32)) 1 6 = 0 := by rw [aI_nk (fun q => by omega), aI_nk (fun q => by omega), aI_nk (fun q => by omega), aI_nk (fun q => by omega), aI_nk (fun q => by omega), aI_nk (fun q => by omega), aI_nk (fun q => by omega), aI_nk (fun q => by omega), aI_at]
  have y7 : a_I (s_I (s_I (s_I (s_I (s_I (s_I (s_I (s_I (s_I (s_I M1 1 5 (0 : Int32)) 1 6 (0 : Int32)) 1 7 (0 : Int32)) 1 8 (-1 : Int32)) 1 9 (-1 : Int32)) 1 10 (0 : Int32)) 1 11 (0 : Int32)) 1 12 (0 : Int32)) 1 13 (0 : Int32)) 1 14 (-1 : Int32)) 1 7 = 0 := by rw [aI_nk (fun q => by omega), aI_nk (fun q => by omega), aI_nk (fun q => by omega), aI_nk (fun q => by omega), aI_nk (fun q => by omega), aI_nk (fun q => by omega), aI_nk (fun q => by omega), aI_at]
  have y8 : a_I (s_I (s_I (s_I (s_I (s_I (s_I (s_I (s_I (s_I (s_I M1 1 5 (0 : Int32)) 1 6 (0 : Int32)) 1 7 (0 : Int32)) 1 8 (-1 : Int32)) 1 9 (-1 : Int32)) 1 10 (0 : Int32)) 1 11 (0 : Int32)) 1 12 (0 : Int32)) 1 13 (0 : Int32)) 1 14 (-1 : Int32)) 1 8 = -1 := by rw [aI_nk (fun q => by omega), aI_nk (fun q => by omega), aI_nk (fun q => by omega), aI_nk (fun q => by omega), aI_nk (fun q => by omega), aI_nk (fun q => by omega), aI_at]
  have y9 : a_I (s_I (s_I (s_I (s_I (s_I (s_I (s_I (s_I (s_I (s_I M1 1 5 (0 : Int32)) 1 6 (0 : Int32)) 1 7 (0 : Int32)) 1 8 (-1 : Int32)) 1 9 (-1 : Int32)) 1 10 (0 : Int32)) 1 11 (0 : Int32)) 1 12 (0 : Int32)) 1 13 (0 : Int32)) 1 14 (-1 : Int32)) 1 9 = -1 := by rw [aI_nk (fun q => by omega), aI_nk (fun q => by omega), aI_nk (fun q => by omega), aI_nk (fun q => by omega), aI_nk (fun q => by omega), aI_at]
  have y10 : a_I (s_I (s_I (s_I (s_I (s_I (s_I (s_I (s_I (s_I (s_I M1 1 5 (0 : Int32)) 1 6 (0 : Int32)) 1 7 (0 : Int32)) 1 8 (-1 : Int32)) 1 9 (-1 : Int32)) 1 10 (0 : Int32)) 1 11 (0 : Int32)) 1 12 (0 : Int32)) 1 13 (0 : Int32)) 1 14 (-1 : Int32)) 1 10 = 0 := by rw [aI_nk (fun q => by omega), aI_nk (fun q => by omega), aI_nk (fun q => by omega), aI_nk (fun q => by omega), aI_at]
  have y11 : a_I (s_I (s_I (s_I (s_I (s_I (s_I (s_I (s_I (s_I (s_I M1 1 5 (0 : Int32)) 1 6 (0 : Int32)) 1 7 (0 : Int32)) 1 8 (-1 : Int32)) 1 9 (-1 : Int32)) 1 10 (0 : Int32)) 1 11 (0 : Int32)) 1 12 (0 : Int32)) 1 13 (0 : Int32)) 1 14 (-1 : Int32)) 1 11 = 0 := by rw [aI_nk (fun q => by omega), aI_nk (fun q => by omega), aI_nk (fun q => by omega), aI_at]
  have y12 : a_I (s_I (s_I (s_I (s_I (s_I (s_I (s_I (s_I (s_I (s_I M1 1 5 (0 : Int32)) 1 6 (0 : Int32)) 1 7 (0 : Int32)) 1 8 (-1 : Int32)) 1 9 (-1 : Int32)) 1 10 (0 : Int32)) 1 11 (0 : Int32)) 1 12 (0 : Int32)) 1 13 (0 : Int32)) 1 14 (-1 : Int32)) 1 12 = 0 := by rw [aI_nk (fun q => by omega), aI_nk (fun q => by omega), aI_at]
  have y13 : a_I (s_I (s_I (s_I (s_I (s_I (s_I (s_I (s_I (s_I (s_I M1 1 5 (0 : Int32)) 1 6 (0 : Int32)) 1 7 (0 : Int32)) 1 8 (-1 : Int32)) 1 9 (-1 : Int32)) 1 10 (0 : Int32)) 1 11 (0 : Int32)) 1 12 (0 : Int32)) 1 13 (0 : Int32)) 1 14 (-1 : Int32)) 1 13 = 0 := by rw [aI_nk (fun q => by omega), aI_at]
  have w10 : a_I (s_I (s_I (s_I (s_I (s_I (s_I (s_I (s_I (s_I (s_I M1 1 5 (0 : Int32)) 1 6 (0 : Int32)) 1 7 (0 : Int32)) 1 8 (-1 : Int32)) 1 9 (-1 : Int32)) 1 10 (0 : Int32)) 1 11 (0 : Int32)) 1 12 (0 : Int32)) 1 13 (0 : Int32)) 1 14 (-1 : Int32)) t0 10 = 0 := by rw [aI_nk (fun q => by omega), aI_nk (fun q => by omega), aI_nk (fun q => by omega), aI_nk (fun q => by omega), aI_nk (fun q => by omega), aI_nk (fun q => by omega), aI_nk (fun q => by omega), aI_nk (fun q => by omega), aI_nk (fun q => by omega), aI_nk (fun q => by omega)]; exact z10
  have w11 : a_I (s_I (s_I (s_I (s_I (s_I (s_I (s_I (s_I (s_I (s_I M1 1 5 (0 : Int32)) 1 6 (0 : Int32)) 1 7 (0 : Int32)) 1 8 (-1 : Int32)) 1 9 (-1 : Int32)) 1 10 (0 : Int32)) 1 11 (0 : Int32)) 1 12 (0 : Int32)) 1 13 (0 : Int32)) 1 14 (-1 : Int32)) t0 11 = 0 := by rw [aI_nk (fun q => by omega), aI_nk (fun q => by omega), aI_nk (fun q => by omega), aI_nk (fun q => by omega), aI_nk (fun q => by omega), aI_nk (fun q => by omega), aI_nk (fun q => by omega), aI_nk (fun q => by omega), aI_nk (fun q => by omega), aI_nk (fun q => by omega)]; exact z11
  show wpS cd (nv_S (tauC t0) (d + 2, [(53, 65, [(0, .inr (.inr (some 1))), (1, .inl x)], [])], 89, 0, la 0 [.inr (.inr (some 2)), .inl x], [], (s_I (s_I (s_I (s_I (s_I (s_I (s_I (s_I (s_I (s_I M1 1 5 (0 : Int32)) 1 6 (0 : Int32)) 1 7 (0 : Int32)) 1 8 (-1 : Int32)) 1 9 (-1 : Int32)) 1 10 (0 : Int32)) 1 11 (0 : Int32)) 1 12 (0 : Int32)) 1 13 (0 : Int32)) 1 14 (-1 : Int32)))) _
  generalize (s_I (s_I (s_I (s_I (s_I (s_I (s_I (s_I (s_I (s_I M1 1 5 (0 : Int32)) 1 6 (0 : Int32)) 1 7 (0 : Int32)) 1 8 (-1 : Int32)) 1 9 (-1 : Int32)) 1 10 (0 : Int32)) 1 11 (0 : Int32)) 1 12 (0 : Int32)) 1 13 (0 : Int32)) 1 14 (-1 : Int32)) = W at P2 y5 y6 y7 y8 y9 y10 y11 y12 y13 w10 w11 ⊢
  refine nv_cut hct nvC 91 0 11 (S' := (d + 1, [(89, 14, [(0, .inr (.inr (some 2))), (1, .inl x)], []), (53, 65, [(0, .inr (.inr (some 1))), (1, .inl x)], [])], 91, 0, la 0 [.inr (.inr (some 2))], [], (s_I (s_I W 2 2 x) 2 3 (0 : Int32)))) P2.1 rfl ?_
  have E3 : EnC t0 B lim (s_I (s_I W 2 2 x) 2 3 (0 : Int32)) := ⟨nv_As (nv_As P2.1), Pr_by (by decide) (Pr_by (by decide) P2.2.1), by rw [aI_nk (fun q => by omega), aI_at]; exact hx, hl, P2.2.2.1⟩
  have T3 : Ty t0 (s_I (s_I W 2 2 x) 2 3 (0 : Int32)) := Ty_e ((aI_nk (fun q => by omega)).trans (aI_nk (fun q => by omega))) ((aI_nk (fun q => by omega)).trans (aI_nk (fun q => by omega))) ((aI_nk (fun q => by omega)).trans (aI_nk (fun q => by omega))) ((aI_nk (fun q => by omega)).trans (aI_nk (fun q => by omega))) ((aI_nk (fun q => by omega)).trans (aI_nk (fun q => by omega))) (fun k _ => ⟨((aI_nk (fun q => by omega)).trans (aI_nk (fun q => by omega))), ((aI_nk (fun q => by omega)).trans (aI_nk (fun q => by omega)))⟩) P2.2.2.2.2
  have Q3 : eqE (fL t0) M (s_I (s_I W 2 2 x) 2 3 (0 : Int32)) := eqE_s (eqE_s (fT_L P2.2.2.2.1) (fL_2 (Or.inl rfl))) (fL_2 (Or.inr rfl))
  have a3 : (a_I (s_I (s_I W 2 2 x) 2 3 (0 : Int32)) 2 3).toInt = ((0 : Nat) : Int) := by rw [aI_at]; rfl
  have yy5 : a_I (s_I (s_I W 2 2 x) 2 3 (0 : Int32)) 1 5 = 0 := ((aI_nk (fun q => by omega)).trans (aI_nk (fun q => by omega))).trans y5
  have yy6 : a_I (s_I (s_I W 2 2 x) 2 3 (0 : Int32)) 1 6 = 0 := ((aI_nk (fun q => by omega)).trans (aI_nk (fun q => by omega))).trans y6
  have yy7 : a_I (s_I (s_I W 2 2 x) 2 3 (0 : Int32)) 1 7 = 0 := ((aI_nk (fun q => by omega)).trans (aI_nk (fun q => by omega))).trans y7
  have yy8 : a_I (s_I (s_I W 2 2 x) 2 3 (0 : Int32)) 1 8 = -1 := ((aI_nk (fun q => by omega)).trans (aI_nk (fun q => by omega))).trans y8
  have yy9 : a_I (s_I (s_I W 2 2 x) 2 3 (0 : Int32)) 1 9 = -1 := ((aI_nk (fun q => by omega)).trans (aI_nk (fun q => by omega))).trans y9
  have yy10 : a_I (s_I (s_I W 2 2 x) 2 3 (0 : Int32)) 1 10 = 0 := ((aI_nk (fun q => by omega)).trans (aI_nk (fun q => by omega))).trans y10
  have yy11 : a_I (s_I (s_I W 2 2 x) 2 3 (0 : Int32)) 1 11 = 0 := ((aI_nk (fun q => by omega)).trans (aI_nk (fun q => by omega))).trans y11
  have yy12 : a_I (s_I (s_I W 2 2 x) 2 3 (0 : Int32)) 1 12 = 0 := ((aI_nk (fun q => by omega)).trans (aI_nk (fun q => by omega))).trans y12
  have yy13 : a_I (s_I (s_I W 2 2 x) 2 3 (0 : Int32)) 1 13 = 0 := ((aI_nk (fun q => by omega)).trans (aI_nk (fun q => by omega))).trans y13
  have ww10 : a_I (s_I (s_I W 2 2 x) 2 3 (0 : Int32)) t0 10 = 0 := ((aI_nk (fun q => by omega)).trans (aI_nk (fun q => by omega))).trans w10
  have ww11 : a_I (s_I (s_I W 2 2 x) 2 3 (0 : Int32)) t0 11 = 0 := ((aI_nk (fun q => by omega)).trans (aI_nk (fun q => by omega))).trans w11
  show wpS cd (nv_S (tauC t0) (d + 1, [(89, 14, [(0, .inr (.inr (some 2))), (1, .inl x)], []), (53, 65, [(0, .inr (.inr (some 1))), (1, .inl x)], [])], 91, 0, la 0 [.inr (.inr (some 2))], [], (s_I (s_I W 2 2 x) 2 3 (0 : Int32)))) _
  generalize (s_I (s_I W 2 2 x) 2 3 (0 : Int32)) = V at E3 T3 Q3 a3 yy5 yy6 yy7 yy8 yy9 yy10 yy11 yy12 yy13 ww10 ww11 ⊢
  refine nv_callv (c_advance hz E3 (Nat.zero_le _) a3) (fun M4 ⟨g4, T4⟩ => ?_)
  have g4a := g4
  have g4 := fA_C g4
  have E4 := Ec_C g4 E3
  refine nv_cut hct nvC 53 65 4 (S' := (d + 3, [], 53, 65, [(0, .inr (.inr (some 1))), (1, .inl x)], [], M4)) E4.1 rfl ?_
  have K3 : KC t0 B lim V L0 := by
    refine ⟨Or.inl ⟨by rw [yy10]; rfl, rfl⟩, ⟨yy11, yy12⟩, ⟨⟨by rw [ww10]; rfl, by decide⟩, ⟨by rw [ww11]; rfl, by decide⟩, ⟨by rw [yy6]; rfl, by decide⟩, ⟨by rw [yy7]; rfl, by decide⟩, ⟨by rw [yy9]; rfl, by decide, by decide⟩, Or.inl ⟨rfl, by rw [yy8]; rfl⟩⟩, ⟨⟨by rw [yy5]; rfl, by decide⟩, fun i hi => absurd hi (Nat.not_lt_zero i)⟩, fun i hi => absurd hi (Nat.not_lt_zero i)⟩
  exact nv_vret hct rfl ⟨rfl, ⟨E4, ⟨0, ⟨Nat.zero_le _, T4⟩, rfl, (g4a.2.2 1 13 rfl).trans yy13⟩, eqE_rf, Ty_N P.2.2.1 (fC_N g4) T3⟩, KC_C P.2.2.1 g4 K3, eqE_tr Q3 (fT_L (fC_T g4))⟩
set_option maxHeartbeats 4000000 in
theorem c_read {cd : Nat → Nat → Option aI} {z : Bool} (hz : ∀ m p i, cd0 z m p = some i → cd m p = some i) {t0 : Nat} {B : Nat → Int} {lim : Nat} {M : aM} (P : PrC t0 B M M) {x : Int32} (hx : x.toInt = (lim : Int)) (hl : lim ≤ 700) {d : Nat} : wpS cd (d + 9, [], 51, 0, nv_l (tauC t0) (la 0 [.inr (.inr (some 1)), .inl x]), [], M) (fun r M' => ∃ v, r = some (.inl v) ∧ v = a_I M' 1 13 ∧ (EnC t0 B lim M' ∧ StC B lim M' (endM B lim (lnsF B lim 701 L0 0).1 (lnsF B lim 701 L0 0).2) ∧ Ty t0 M' ∧ eqE (fL t0) M M') ∧ ∀ q, (endM B lim (lnsF B lim 701 L0 0).1 (lnsF B lim 701 L0 0).2) = .inl q → KC t0 B lim M' (lnsF B lim 701 L0 0).2) := by
  show wpS cd (nv_S (tauC t0) (d + 9, [], 51, 0, la 0 [.inr (.inr (some 1)), .inl x], [], M)) _
  have hct := hc_of hz
  refine nv_cut hct nvC 53 0 6 (S' := (d + 8, [(51, 5, [(0, .inr (.inr (some 1))), (1, .inl x)], [])], 53, 0, la 0 [.inr (.inr (some 1)), .inl x], [], M)) P.1 rfl ?_
  refine nv_callv (c_begin hz P hx hl) (fun M1 ⟨R1, K1, Q1⟩ => ?_)
  refine nv_cut hct nvC 51 7 5 (S' := (d + 9, [], 51, 7, [(2, .inl (0 : Int32)), (0, .inr (.inr (some 1))), (1, .inl x)], [], M1)) R1.1.1 rfl ?_
  refine wpS_mono (c_lines hz 701 (by omega) (Nat.zero_le 0) rfl R1 K1 rfl) (fun r M2 h => ?_)
  obtain ⟨v, h1, h2, h3, h4⟩ := h
  exact ⟨v, h1, h2, ⟨h3.1, h3.2.1, h3.2.2.2, eqE_tr Q1 (fT_L h3.2.2.1)⟩, h4⟩

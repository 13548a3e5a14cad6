/-! What the class's reading keeps; names taken: printed by wip/gen/clsp6.py -/
theorem fC_n {a k : Nat} (h1 : a ≠ 1) (h2 : a ≠ 2) : fC a k = false := by unfold fC; rw [nbF h1, nbF h2]; rfl
/-- the reader's names as well -/
def fN (a k : Nat) : Bool := fC a k || ((Nat.beq a 1 && Nat.beq k 5) || (Nat.ble 16 a && Nat.ble a 18))
/-- all that a reading may change -/
def fT (t0 a k : Nat) : Bool := fC a k || ((Nat.beq a 1 && (Nat.ble 5 k && Nat.ble k 14)) || ((Nat.ble 16 a && Nat.ble a 18) || (Nat.ble t0 a && Nat.ble a (t0 + 11))))
theorem fC_N {M M1 : aM} (h : eqE fC M M1) : eqE fN M M1 := eqE_up h (fun a k q => ((Bool.or_eq_false_iff).mp q).1)
theorem fC_T {t0 : Nat} {M M1 : aM} (h : eqE fC M M1) : eqE (fT t0) M M1 := eqE_up h (fun a k q => ((Bool.or_eq_false_iff).mp q).1)
theorem fN_T {t0 : Nat} {M M1 : aM} (h : eqE fN M M1) : eqE (fT t0) M M1 := eqE_up h (fun a k q => by
  obtain ⟨q1, q2⟩ := (Bool.or_eq_false_iff).mp q
  obtain ⟨q3, q4⟩ := (Bool.or_eq_false_iff).mp q2
  obtain ⟨q5, q6⟩ := (Bool.or_eq_false_iff).mp q4
  unfold fN
  rw [q1, q5]
  cases ha : Nat.beq a 1 with
  | false => rfl
  | true =>
    cases hk : Nat.beq k 5 with
    | false => rfl
    | true => rw [ha, nbT hk] at q3; cases q3)
theorem fN_n {a k : Nat} (h1 : a ≠ 1) (h2 : a ≠ 2) (h3 : a < 16 ∨ 18 < a) : fN a k = false := by
  unfold fN
  rw [fC_n h1 h2, nbF h1]
  have : (Nat.ble 16 a && Nat.ble a 18) = false := by
    cases hb : (Nat.ble 16 a && Nat.ble a 18) with
    | false => rfl
    | true =>
      obtain ⟨b1, b2⟩ := (Bool.and_eq_true _ _).mp hb
      have := Nat.le_of_ble_eq_true b1
      have := Nat.le_of_ble_eq_true b2
      omega
  rw [this]
  rfl
theorem Ec_N {t0 : Nat} {B : Nat → Int} {lim : Nat} {M M1 : aM} (h : eqE fN M M1) (hE : EnC t0 B lim M) : EnC t0 B lim M1 := Ec_x (fun k => rfl) rfl h hE
/-- slots of types -/
def Ty (t0 : Nat) (M : aM) : Prop := (isB (a_I M 1 10) = true ∧ isB (a_I M 1 11) = true ∧ isB (a_I M 1 12) = true) ∧ ((0 ≤ (a_I M t0 10).toInt ∧ (a_I M t0 10).toInt ≤ 4) ∧ 0 ≤ (a_I M t0 11).toInt ∧ (a_I M t0 11).toInt ≤ 4) ∧ ∀ k, k < 30 → isB (a_I M (t0 + 10) k) = isB (a_I M (t0 + 10) k) ∧ isB (a_I M (t0 + 11) k) = isB (a_I M (t0 + 11) k)
theorem Ty_x {t0 : Nat} {f : Nat → Nat → Bool} {M M1 : aM} (h1 : f 1 10 = false) (h2 : f 1 11 = false) (h3 : f 1 12 = false) (h4 : ∀ j k, f (t0 + j) k = false) (h : eqE f M M1) (hT : Ty t0 M) : Ty t0 M1 := by
  have e : ∀ j k, a_I M1 (t0 + j) k = a_I M (t0 + j) k := fun j k => h.2.2 _ _ (h4 j k)
  have e0 : ∀ k, a_I M1 t0 k = a_I M t0 k := fun k => e 0 k
  unfold Ty
  rw [h.2.2 1 10 h1, h.2.2 1 11 h2, h.2.2 1 12 h3, e0 10, e0 11]
  refine ⟨hT.1, hT.2.1, fun k hk => ?_⟩
  rw [e 10, e 11]
  exact hT.2.2 k hk
def t4 (t0 : Nat) : Prop := t0 = 4 ∨ t0 = 101
theorem t4_N {t0 : Nat} (h : t4 t0) : ∀ j k, j < 12 → fN (t0 + j) k = false := fun j k hj => fN_n (by rcases h with e | e <;> omega) (by rcases h with e | e <;> omega) (by rcases h with e | e <;> omega)
theorem Ty_e {t0 : Nat} {M M1 : aM} (h1 : a_I M1 1 10 = a_I M 1 10) (h2 : a_I M1 1 11 = a_I M 1 11) (h3 : a_I M1 1 12 = a_I M 1 12) (h4 : a_I M1 t0 10 = a_I M t0 10) (h5 : a_I M1 t0 11 = a_I M t0 11) (h6 : ∀ k, k < 30 → a_I M1 (t0 + 10) k = a_I M (t0 + 10) k ∧ a_I M1 (t0 + 11) k = a_I M (t0 + 11) k) (hT : Ty t0 M) : Ty t0 M1 := by
  unfold Ty
  rw [h1, h2, h3, h4, h5]
  refine ⟨hT.1, hT.2.1, fun k hk => ?_⟩
  rw [(h6 k hk).1, (h6 k hk).2]
  exact hT.2.2 k hk
theorem Ty_N {t0 : Nat} {M M1 : aM} (ht : t4 t0) (h : eqE fN M M1) (hT : Ty t0 M) : Ty t0 M1 :=
  have e : ∀ j k, j < 12 → a_I M1 (t0 + j) k = a_I M (t0 + j) k := fun j k hj => h.2.2 _ _ (t4_N ht j k hj)
  Ty_e (h.2.2 _ _ rfl) (h.2.2 _ _ rfl) (h.2.2 _ _ rfl) (e 0 10 (by omega)) (e 0 11 (by omega)) (fun k _ => ⟨e 10 k (by omega), e 11 k (by omega)⟩) hT
/-- a reading of the class under way -/
def RdC (t0 : Nat) (B : Nat → Int) (lim : Nat) (M0 M : aM) (m : pmd) : Prop := EnC t0 B lim M ∧ StC B lim M m ∧ eqE (fT t0) M0 M ∧ Ty t0 M
theorem Rc_N {t0 : Nat} {B : Nat → Int} {lim : Nat} {M0 M M1 : aM} {m m1 : pmd} (R : RdC t0 B lim M0 M m) (h : eqE fN M M1) (S : StC B lim M1 m1) : RdC t0 B lim M0 M1 m1 := ⟨Ec_N h R.1, S, eqE_tr R.2.2.1 (fN_T h), Ty_N R.1.2.2.2.2 h R.2.2.2⟩
theorem Rc_C {t0 : Nat} {B : Nat → Int} {lim : Nat} {M0 M M1 : aM} {m m1 : pmd} (R : RdC t0 B lim M0 M m) (h : eqE fC M M1) (S : StC B lim M1 m1) : RdC t0 B lim M0 M1 m1 := Rc_N R (fC_N h) S
/-- what the lines told: rod; lip, costs; counts -/
def ClR (t0 : Nat) (M : aM) (L : lsT) : Prop := ((a_I M 1 10).toInt = 0 ∧ l_in L = 0) ∨ ((a_I M 1 10).toInt = 1 ∧ ((a_I M t0 0).toInt = l_in L ∧ (a_I M t0 1).toInt = L.1.2.1 ∧ (a_I M t0 2).toInt = L.1.2.2) ∧ 2 ≤ l_in L ∧ l_in L ≤ 30)
def ClB (M : aM) (L : lsT) : Prop := a_I M 1 11 = (bif l_lp L then 1 else 0) ∧ a_I M 1 12 = (bif l_co L then 1 else 0)
def ClW (t0 : Nat) (M : aM) (L : lsT) : Prop := ((a_I M t0 10).toInt = (l_wy L : Int) ∧ l_wy L ≤ 4) ∧ ((a_I M t0 11).toInt = (l_se L : Int) ∧ l_se L ≤ 4) ∧ ((a_I M 1 6).toInt = (l_hd L : Int) ∧ l_hd L ≤ 10) ∧ ((a_I M 1 7).toInt = (l_fr L : Int) ∧ l_fr L ≤ 8) ∧ ((a_I M 1 9).toInt = l_fl L ∧ -1 ≤ l_fl L ∧ l_fl L ≤ 29) ∧ ((l_fr L = 0 ∧ (a_I M 1 8).toInt = -1) ∨ (1 ≤ l_fr L ∧ (a_I M 1 8).toInt = l_f0 L))
def NB (L : lsT) : Prop := ∀ i, i < (l_nm L).length → -1 ≤ ((l_nm L).getD i (0, 0)).2
theorem ClR_e {t0 : Nat} {M M1 : aM} {L : lsT} (h1 : a_I M1 1 10 = a_I M 1 10) (h2 : a_I M1 t0 0 = a_I M t0 0) (h3 : a_I M1 t0 1 = a_I M t0 1) (h4 : a_I M1 t0 2 = a_I M t0 2) (h : ClR t0 M L) : ClR t0 M1 L := by unfold ClR; rw [h1, h2, h3, h4]; exact h
theorem ClB_e {M M1 : aM} {L : lsT} (h1 : a_I M1 1 11 = a_I M 1 11) (h2 : a_I M1 1 12 = a_I M 1 12) (h : ClB M L) : ClB M1 L := by unfold ClB; rw [h1, h2]; exact h
theorem ClW_e {t0 : Nat} {M M1 : aM} {L : lsT} (h1 : a_I M1 t0 10 = a_I M t0 10) (h2 : a_I M1 t0 11 = a_I M t0 11) (h3 : a_I M1 1 6 = a_I M 1 6) (h4 : a_I M1 1 7 = a_I M 1 7) (h5 : a_I M1 1 8 = a_I M 1 8) (h6 : a_I M1 1 9 = a_I M 1 9) (h : ClW t0 M L) : ClW t0 M1 L := by unfold ClW; rw [h1, h2, h3, h4, h5, h6]; exact h
theorem CN_e {B : Nat → Int} {lim : Nat} {M M1 : aM} {L : lsT} (h1 : a_I M1 1 5 = a_I M 1 5) (h2 : ∀ i, a_I M1 16 i = a_I M 16 i) (h3 : ∀ i, a_I M1 17 i = a_I M 17 i) (h4 : ∀ i, a_I M1 18 i = a_I M 18 i) (h : CN B lim M L) : CN B lim M1 L := by
  unfold CN
  rw [h1]
  refine ⟨h.1, fun i hi => ?_⟩
  rw [h2, h3, h4]
  exact h.2 i hi
theorem ClR_N {t0 : Nat} {M M1 : aM} {L : lsT} (ht : t4 t0) (q : eqE fN M M1) (h : ClR t0 M L) : ClR t0 M1 L := ClR_e (q.2.2 _ _ rfl) (q.2.2 _ _ (t4_N ht 0 _ (by omega))) (q.2.2 _ _ (t4_N ht 0 _ (by omega))) (q.2.2 _ _ (t4_N ht 0 _ (by omega))) h
theorem ClB_N {M M1 : aM} {L : lsT} (q : eqE fN M M1) (h : ClB M L) : ClB M1 L := ClB_e (q.2.2 _ _ rfl) (q.2.2 _ _ rfl) h
theorem ClW_N {t0 : Nat} {M M1 : aM} {L : lsT} (ht : t4 t0) (q : eqE fN M M1) (h : ClW t0 M L) : ClW t0 M1 L := ClW_e (q.2.2 _ _ (t4_N ht 0 _ (by omega))) (q.2.2 _ _ (t4_N ht 0 _ (by omega))) (q.2.2 _ _ rfl) (q.2.2 _ _ rfl) (q.2.2 _ _ rfl) (q.2.2 _ _ rfl) h
theorem CN_C {B : Nat → Int} {lim : Nat} {M M1 : aM} {L : lsT} (q : eqE fC M M1) (h : CN B lim M L) : CN B lim M1 L := CN_e (q.2.2 _ _ rfl) (fun _ => q.2.2 _ _ rfl) (fun _ => q.2.2 _ _ rfl) (fun _ => q.2.2 _ _ rfl) h
def KC (t0 : Nat) (B : Nat → Int) (lim : Nat) (M : aM) (L : lsT) : Prop := ClR t0 M L ∧ ClB M L ∧ ClW t0 M L ∧ CN B lim M L ∧ NB L
theorem KC_C {t0 : Nat} {B : Nat → Int} {lim : Nat} {M M1 : aM} {L : lsT} (ht : t4 t0) (q : eqE fC M M1) (h : KC t0 B lim M L) : KC t0 B lim M1 L := ⟨ClR_N ht (fC_N q) h.1, ClB_N (fC_N q) h.2.1, ClW_N ht (fC_N q) h.2.2.1, CN_C q h.2.2.2.1, h.2.2.2.2⟩
/-- a name that is added -/
def addN (L : lsT) (w s : Int) : lsT := (L.1, L.2.1, L.2.2.1, L.2.2.2.1, l_nm L ++ [(w, s)])
def tkN (B : Nat → Int) (lim : Nat) (L : lsT) (m : pmd) : pmd := m_if B lim 3 (!decide (l_fd L (m_hs B lim m) = -1)) (m_if B lim 1 (!m_name B lim m) m)
theorem CN_add {B : Nat → Int} {lim : Nat} {M : aM} {L : lsT} {p : Nat} (hp : p ≤ lim) (hl : lim ≤ 700) (hk : knd B lim p = 1) (hT : TkC B lim M p) (hN : CN B lim M L) (h8 : (l_nm L).length < 8) {w : Int32} : CN B lim (s_I (s_I (s_I (s_I M 16 (l_nm L).length (a_I M 2 5)) 17 (l_nm L).length (a_I M 2 6)) 18 (l_nm L).length w) 1 5 (a_I M 1 5 + 1)) (addN L (m_hs B lim (.inl p)) w.toInt) := by
  have e6 : ∀ i, a_I (s_I (s_I (s_I (s_I M 16 (l_nm L).length (a_I M 2 5)) 17 (l_nm L).length (a_I M 2 6)) 18 (l_nm L).length w) 1 5 (a_I M 1 5 + 1)) 16 i = if i = (l_nm L).length then a_I M 2 5 else a_I M 16 i := fun i => by
    rw [aI_nk (fun q => by omega), aI_nk (fun q => by omega), aI_nk (fun q => by omega), aI_sI]
    by_cases h : i = (l_nm L).length
    · rw [if_pos ⟨rfl, h⟩, if_pos h]
    · rw [if_neg (fun q => h q.2), if_neg h]
  have e7 : ∀ i, a_I (s_I (s_I (s_I (s_I M 16 (l_nm L).length (a_I M 2 5)) 17 (l_nm L).length (a_I M 2 6)) 18 (l_nm L).length w) 1 5 (a_I M 1 5 + 1)) 17 i = if i = (l_nm L).length then a_I M 2 6 else a_I M 17 i := fun i => by
    rw [aI_nk (fun q => by omega), aI_nk (fun q => by omega), aI_sI]
    by_cases h : i = (l_nm L).length
    · rw [if_pos ⟨rfl, h⟩, if_pos h]
    · rw [if_neg (fun q => h q.2), if_neg h, aI_nk (fun q => by omega)]
  have e8 : ∀ i, a_I (s_I (s_I (s_I (s_I M 16 (l_nm L).length (a_I M 2 5)) 17 (l_nm L).length (a_I M 2 6)) 18 (l_nm L).length w) 1 5 (a_I M 1 5 + 1)) 18 i = if i = (l_nm L).length then w else a_I M 18 i := fun i => by
    rw [aI_nk (fun q => by omega), aI_sI]
    by_cases h : i = (l_nm L).length
    · rw [if_pos ⟨rfl, h⟩, if_pos h]
    · rw [if_neg (fun q => h q.2), if_neg h, aI_nk (fun q => by omega), aI_nk (fun q => by omega)]
  have hl9 : (l_nm (addN L (m_hs B lim (.inl p)) w.toInt)).length = (l_nm L).length + 1 := by
    show (l_nm L ++ [_]).length = _
    rw [List.length_append]; rfl
  unfold CN
  rw [hl9, aI_at]
  refine ⟨⟨by rw [add_p hN.1.1 (by omega) (by omega)]; omega, by omega⟩, fun i hi => ?_⟩
  rw [e6, e7, e8]
  have hg : ∀ j, (l_nm (addN L (m_hs B lim (.inl p)) w.toInt)).getD j (0, 0) = if j < (l_nm L).length then (l_nm L).getD j (0, 0) else (if j = (l_nm L).length then (m_hs B lim (.inl p), w.toInt) else (0, 0)) := fun j => by
    show (l_nm L ++ [(m_hs B lim (.inl p), w.toInt)]).getD j (0, 0) = _
    by_cases h : j < (l_nm L).length
    · rw [if_pos h, List.getD_eq_getElem?_getD, List.getElem?_append_left h, ← List.getD_eq_getElem?_getD]
    · rw [if_neg h, List.getD_eq_getElem?_getD, List.getElem?_append_right (by omega)]
      by_cases h2 : j = (l_nm L).length
      · rw [if_pos h2, h2, Nat.sub_self]; rfl
      · rw [if_neg h2]
        obtain ⟨n, hn⟩ : ∃ n, j - (l_nm L).length = n + 1 := ⟨j - (l_nm L).length - 1, by omega⟩
        rw [hn]; rfl
  by_cases h : i = (l_nm L).length
  · rw [if_pos h, if_pos h, if_pos h, hg i, if_neg (by omega), if_pos h]
    have hs := skp_le (B := B) hp
    exact ⟨skp B lim p, nxt B lim p - skp B lim p, ⟨hT.1, hT.2.2.2.1, by omega⟩, (knd_1 hk).2.2, rfl, rfl⟩
  · rw [if_neg h, if_neg h, if_neg h, hg i, if_pos (by omega)]
    exact hN.2 i (by omega)
theorem NB_add {L : lsT} {w s : Int} (h : NB L) (hs : -1 ≤ s) : NB (addN L w s) := fun i hi => by
  have hl9 : (l_nm (addN L w s)).length = (l_nm L).length + 1 := by
    show (l_nm L ++ [_]).length = _
    rw [List.length_append]; rfl
  show -1 ≤ ((l_nm L ++ [(w, s)]).getD i (0, 0)).2
  by_cases e : i < (l_nm L).length
  · rw [List.getD_eq_getElem?_getD, List.getElem?_append_left e, ← List.getD_eq_getElem?_getD]
    exact h i e
  · rw [List.getD_eq_getElem?_getD, List.getElem?_append_right (by omega)]
    have : i - (l_nm L).length = 0 := by omega
    rw [this]
    exact hs
theorem Sc_s {B : Nat → Int} {lim : Nat} {M : aM} {m : pmd} {a k : Nat} {v : Int32} (h2 : a ≠ 2) (h1 : a = 1 → k < 13) (h : StC B lim M m) : StC B lim (s_I M a k v) m := by
  obtain ⟨p, ⟨p1, p2⟩, p3⟩ := h
  have e : ∀ j, a_I (s_I M a k v) 2 j = a_I M 2 j := fun j => aI_nk (fun q => h2 q.1.symm)
  have e1 : ∀ j, 13 ≤ j → a_I (s_I M a k v) 1 j = a_I M 1 j := fun j hj => aI_nk (fun q => by have := h1 q.1.symm; omega)
  refine ⟨p, ⟨p1, ?_⟩, ?_⟩
  · unfold TkC
    rw [e, e, e, e, e]
    exact p2
  · rcases m with q | f
    · exact ⟨p3.1, (e1 13 (by omega)).trans p3.2⟩
    · exact ⟨by rw [e1 13 (by omega)]; exact p3.1, by rw [e1 14 (by omega)]; exact p3.2.1, p3.2.2⟩
set_option maxHeartbeats 4000000 in
theorem c_takeNew {cd : Nat → Nat → Option aI} {z : Bool} (hz : ∀ m p i, cd0 z m p = some i → cd m p = some i) {t0 : Nat} {B : Nat → Int} {lim : Nat} {M : aM} (hE : EnC t0 B lim M) {m : pmd} (hS : StC B lim M m) {L : lsT} (hN : CN B lim M L) (h8 : ∀ q, m = .inl q → (l_nm L).length < 8) {w : Int32} {d : Nat} : wpS cd (d + 6, [], 69, 0, nv_l (tauC t0) (la 0 [.inr (.inr (some 1)), .inl w]), [], M) (fun r M' => r = none ∧ eqE fN M M' ∧ StC B lim M' (m_adv B lim (tkN B lim L m)) ∧ ∀ q, tkN B lim L m = .inl q → CN B lim M' (addN L (m_hs B lim m) w.toInt)) := by
  show wpS cd (nv_S (tauC t0) (d + 6, [], 69, 0, la 0 [.inr (.inr (some 1)), .inl w], [], M)) _
  have hct := hc_of hz
  have hS0 := hS
  obtain ⟨p, ⟨hp, hT⟩, hm⟩ := hS0
  refine nv_cut hct nvC 71 0 5 (S' := (d + 5, [(69, 4, [(0, .inr (.inr (some 1))), (1, .inl w)], [])], 71, 0, la 0 [.inr (.inr (some 1))], [], M)) hE.1 rfl ?_
  refine nv_calli (c_isName hz hE hT) (fun x M1 ⟨e1, hx⟩ => ?_)
  subst e1
  refine nv_cut hct nvC 69 4 3 (S' := (d + 6, [], 69, 4, [(0, .inr (.inr (some 1))), (1, .inl w)], [.inl x], M1)) hE.1 rfl ?_
  have key : ∀ M2, eqE fC M1 M2 → StC B lim M2 (tkN B lim L m) → CN B lim M2 L → wpS cd (nv_S (tauC t0) (d + 6, [], 69, 27, [(0, .inr (.inr (some 1))), (1, .inl w)], [], M2)) (fun r M' => r = none ∧ eqE fN M1 M' ∧ StC B lim M' (m_adv B lim (tkN B lim L m)) ∧ ∀ q, tkN B lim L m = .inl q → CN B lim M' (addN L (m_hs B lim m) w.toInt)) := by
    intro M2 q2 S2 N2
    have E2 := Ec_C q2 hE
    refine nv_cut hct nvC 69 31 5 (S' := (d + 6, [], 69, 31, [(0, .inr (.inr (some 1))), (1, .inl w)], [.inl (a_I M2 1 13)], M2)) E2.1 rfl ?_
    cases ht : tkN B lim L m with
    | inr f =>
      rw [ht] at S2
      obtain ⟨p9, _, h13, _, h1f⟩ := S2
      refine nv_if hct true rfl (zcT5 h13 (by omega)) ?_
      refine nv_cut hct nvC 91 0 6 (S' := (d + 5, [(69, 109, [(0, .inr (.inr (some 1))), (1, .inl w)], [])], 91, 0, la 0 [.inr (.inr (some 2))], [], M2)) E2.1 rfl ?_
      refine nv_callv (c_adv hz E2 (show StC B lim M2 (.inr f) from ⟨p9, by assumption, h13, by assumption, h1f⟩)) (fun M3 ⟨q3, S3⟩ => ?_)
      refine nv_cut hct nvC 69 109 3 (S' := (d + 6, [], 69, 109, [(0, .inr (.inr (some 1))), (1, .inl w)], [], M3)) (Ec_C q3 E2).1 rfl ?_
      exact nv_vret hct rfl ⟨rfl, fC_N (eqE_tr q2 q3), S3, fun q e => by cases e⟩
    | inl q =>
      rw [ht] at S2
      obtain ⟨⟨hq, T2⟩, h13⟩ := Sc_p S2
      obtain ⟨ti, _⟩ := if_inl (show m_if B lim 3 (!decide (l_fd L (m_hs B lim m) = -1)) (m_if B lim 1 (!m_name B lim m) m) = .inl q from ht)
      obtain ⟨tm, hkq⟩ := name_1 ti
      have hlen := h8 q tm
      have hn5 := N2.1.1
      refine nv_if hct false rfl (zcF5 (show (a_I M2 1 13).toInt = 0 by rw [h13]; rfl) rfl) ?_
      refine nv_cut hct nvC 69 38 5 (S' := (d + 6, [], 69, 38, [(0, .inr (.inr (some 1))), (1, .inl w)], [.inl (a_I M2 1 5)], M2)) E2.1 rfl ?_
      refine nv_if hct false rfl (zcF0 hn5 (by omega)) ?_
      refine nv_cut hct nvC 69 47 6 (S' := (d + 6, [], 69, 47, [(0, .inr (.inr (some 1))), (1, .inl w)], [.inl (8 : Int32), .inl (a_I M2 1 5)], M2)) E2.1 rfl ?_
      refine nv_ifc hct false rfl (ccF4 hn5 (show ((8 : Int32)).toInt = 8 from rfl) (by omega)) ?_
      refine nv_cut hct nvC 69 65 10 (S' := (d + 6, [], 69, 65, [(0, .inr (.inr (some 1))), (1, .inl w)], [.inl (a_I M2 2 5), .inl (a_I M2 1 5), .inr (.inr (some 16))], M2)) E2.1 rfl ?_
      refine nv_ast hct E2.1 rfl (show nvC.1 16 = 15 + 1 from rfl) (show nvC.2.1 16 = 8 + 1 from rfl) (inb_p hn5 (by omega)) ?_
      rw [tnc hn5]
      refine nv_cut hct nvC 69 81 10 (S' := (d + 6, [], 69, 81, [(0, .inr (.inr (some 1))), (1, .inl w)], [.inl (a_I M2 2 6), .inl (a_I M2 1 5), .inr (.inr (some 17))], (s_I M2 16 (l_nm L).length (a_I M2 2 5)))) (nv_As E2.1) rfl ?_
      refine nv_ast hct (nv_As E2.1) rfl (show nvC.1 17 = 15 + 1 from rfl) (show nvC.2.1 17 = 8 + 1 from rfl) (inb_p hn5 (by omega)) ?_
      rw [tnc hn5]
      refine nv_cut hct nvC 69 91 8 (S' := (d + 6, [], 69, 91, [(0, .inr (.inr (some 1))), (1, .inl w)], [.inl w, .inl (a_I M2 1 5), .inr (.inr (some 18))], (s_I (s_I M2 16 (l_nm L).length (a_I M2 2 5)) 17 (l_nm L).length (a_I M2 2 6)))) (nv_As (nv_As E2.1)) rfl ?_
      refine nv_ast hct (nv_As (nv_As E2.1)) rfl (show nvC.1 18 = 15 + 1 from rfl) (show nvC.2.1 18 = 8 + 1 from rfl) (inb_p hn5 (by omega)) ?_
      rw [tnc hn5]
      refine nv_cut hct nvC 69 102 9 (S' := (d + 6, [], 69, 102, [(0, .inr (.inr (some 1))), (1, .inl w)], [], (s_I (s_I (s_I (s_I M2 16 (l_nm L).length (a_I M2 2 5)) 17 (l_nm L).length (a_I M2 2 6)) 18 (l_nm L).length w) 1 5 ((a_I M2 1 5) + (1 : Int32))))) (nv_As (nv_As (nv_As E2.1))) rfl ?_
      have N9 := CN_add hq hE.2.2.2.1 hkq T2 N2 hlen (w := w)
      have Q9 : eqE fN M2 (s_I (s_I (s_I (s_I M2 16 (l_nm L).length (a_I M2 2 5)) 17 (l_nm L).length (a_I M2 2 6)) 18 (l_nm L).length w) 1 5 ((a_I M2 1 5) + (1 : Int32))) := eqE_s (eqE_s (eqE_s (eqE_s eqE_rf rfl) rfl) rfl) rfl
      have S9 : StC B lim (s_I (s_I (s_I (s_I M2 16 (l_nm L).length (a_I M2 2 5)) 17 (l_nm L).length (a_I M2 2 6)) 18 (l_nm L).length w) 1 5 ((a_I M2 1 5) + (1 : Int32))) (.inl q) := Sc_s (by decide) (by decide) (Sc_s (by decide) (fun q => by omega) (Sc_s (by decide) (fun q => by omega) (Sc_s (by decide) (fun q => by omega) S2)))
      generalize (s_I (s_I (s_I (s_I M2 16 (l_nm L).length (a_I M2 2 5)) 17 (l_nm L).length (a_I M2 2 6)) 18 (l_nm L).length w) 1 5 ((a_I M2 1 5) + (1 : Int32))) = M3 at N9 Q9 S9 ⊢
      have E3 := Ec_N Q9 E2
      refine nv_cut hct nvC 91 0 6 (S' := (d + 5, [(69, 109, [(0, .inr (.inr (some 1))), (1, .inl w)], [])], 91, 0, la 0 [.inr (.inr (some 2))], [], M3)) E3.1 rfl ?_
      refine nv_callv (c_adv hz E3 S9) (fun M4 ⟨q4, S4⟩ => ?_)
      refine nv_cut hct nvC 69 109 3 (S' := (d + 6, [], 69, 109, [(0, .inr (.inr (some 1))), (1, .inl w)], [], M4)) (Ec_C q4 E3).1 rfl ?_
      exact nv_vret hct rfl ⟨rfl, eqE_tr (fC_N q2) (eqE_tr Q9 (fC_N q4)), S4, fun r e => CN_C q4 (by rw [tm]; exact N9)⟩
  cases hc : nmP B lim p with
  | false =>
    refine nv_if hct false rfl (zcF5 (show x.toInt = 0 by rw [hx, hc]; rfl) rfl) ?_
    refine nv_cut hct nvC 54 0 6 (S' := (d + 5, [(69, 12, [(0, .inr (.inr (some 1))), (1, .inl w)], [])], 54, 0, la 0 [.inr (.inr (some 1)), .inl (1 : Int32)], [], M1)) hE.1 rfl ?_
    refine nv_callv (c_blame hz hE hS (kn := 1) rfl (by decide)) (fun M2 ⟨q2, S2⟩ => ?_)
    refine nv_cut hct nvC 69 27 4 (S' := (d + 6, [], 69, 27, [(0, .inr (.inr (some 1))), (1, .inl w)], [], M2)) (Ec_C q2 hE).1 rfl ?_
    refine key M2 q2 ?_ (CN_C q2 hN)
    have ht : tkN B lim L m = m_bad B lim 1 m := by
      rcases m with r | f
      · obtain ⟨rfl, _⟩ := hm
        unfold tkN; rw [nmP_m, hc]; cases (!decide (l_fd L (m_hs B lim (.inl r)) = -1)) <;> rfl
      · unfold tkN m_if; cases (!decide (l_fd L (m_hs B lim (.inr f)) = -1)) <;> cases (!m_name B lim (.inr f)) <;> rfl
    rw [ht]; exact S2
  | true =>
    have hk1 : knd B lim p = 1 := nbT ((Bool.and_eq_true _ _).mp hc).1
    refine nv_if hct true rfl (zcT5 (show x.toInt = 1 by rw [hx, hc]; rfl) (by decide)) ?_
    refine nv_cut hct nvC 72 0 5 (S' := (d + 5, [(69, 19, [(0, .inr (.inr (some 1))), (1, .inl w)], [])], 72, 0, la 0 [.inr (.inr (some 1))], [], M1)) hE.1 rfl ?_
    refine nv_calli (c_find hz hE hp hT hN) (fun y M2 ⟨e2, hb, hf⟩ => ?_)
    subst e2
    have hf := hf hk1
    refine nv_cut hct nvC 69 19 3 (S' := (d + 6, [], 69, 19, [(0, .inr (.inr (some 1))), (1, .inl w)], [.inl y], M2)) hE.1 rfl ?_
    by_cases hy : y.toInt = -1
    · skip
      refine nv_if hct true rfl (zcT0 hy (by decide)) ?_
      refine key M2 eqE_rf ?_ hN
      have ht : tkN B lim L m = m := by
        rcases m with r | f
        · obtain ⟨rfl, _⟩ := hm
          have hd : decide (l_fd L (m_hs B lim (.inl r)) = -1) = true := decide_eq_true (hf.symm.trans hy)
          unfold tkN; rw [nmP_m, hc, hd]; rfl
        · unfold tkN m_if; cases (!decide (l_fd L (m_hs B lim (.inr f)) = -1)) <;> cases (!m_name B lim (.inr f)) <;> rfl
      rw [ht]; exact hS
    · skip
      have hge : 0 ≤ y.toInt := by
        rcases hb with h | ⟨k, h, _⟩
        · exact absurd h hy
        · omega
      refine nv_if hct false rfl (zcF0 rfl (by omega)) ?_
      refine nv_cut hct nvC 54 0 6 (S' := (d + 5, [(69, 27, [(0, .inr (.inr (some 1))), (1, .inl w)], [])], 54, 0, la 0 [.inr (.inr (some 1)), .inl (3 : Int32)], [], M2)) hE.1 rfl ?_
      refine nv_callv (c_blame hz hE hS (kn := 3) rfl (by decide)) (fun M3 ⟨q3, S3⟩ => ?_)
      refine nv_cut hct nvC 69 27 3 (S' := (d + 6, [], 69, 27, [(0, .inr (.inr (some 1))), (1, .inl w)], [], M3)) (Ec_C q3 hE).1 rfl ?_
      refine key M3 q3 ?_ (CN_C q3 hN)
      have ht : tkN B lim L m = m_bad B lim 3 m := by
        rcases m with r | f
        · obtain ⟨rfl, _⟩ := hm
          have hd : decide (l_fd L (m_hs B lim (.inl r)) = -1) = false := decide_eq_false (fun h => hy (hf.trans h))
          unfold tkN; rw [nmP_m, hc, hd]; rfl
        · unfold tkN m_if; cases (!decide (l_fd L (m_hs B lim (.inr f)) = -1)) <;> cases (!m_name B lim (.inr f)) <;> rfl
      rw [ht]; exact S3

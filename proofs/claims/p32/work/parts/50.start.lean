/-! THE CLAIM OUT OF ONE WALK OF THE LAW'S BODY. Your part is whole_start (and what it stands on); all else here is the same for every law, but numbers. -/
def R_law : String := "DeepHoleLaw"
def lw_P (b : Addr) (xs : List Int32) (args : Array Value) (s : State) : Prop := args = #[.ref b] ∧ s.IntsAt b xs ∧ xs.length ≤ 3072 ∧ (Jvm.Cond.and given_1 narrow_1).before args s = true
def lw_Q (_ : Array Value) (s : State) (o : Outcome) (t : State) : Prop := o = .returned (some (.int 1)) ∧ Framed s o t [] 601024 7293034
def lw_Z (below : List Frame) (a : Array Value) (s : State) : State → Prop := fun t => ∃ o, t.status = .running ∧ Ended t below o ∧ lw_Q a s o t
/-- what holds at the law's entry: the machine, the code, the tables' words (any of lw_tbl by 'hts w (by decide +kernel)'), the script of L ints xs at the cell b, what the Statement gives of the start (any of its parts by flat_of_before) -/
def lw_At (p : Program) (s : State) (m : MethodId) (meth : Method) (c : Code) (b L : Nat) (xs : Nat → Int32) : Prop :=
  p.tables.exec = Jvm.exec ∧ c.code = code ∧ meth.sig.returnType = ret ∧ c.maxLocals = 7 ∧ s.vm.findClass R_law = some m.cls ∧ (∀ w ∈ lw_tbl, w.before #[Value.ref b] s = true) ∧ va_X b L xs s s.heap ∧ b < s.heap.size ∧ meth.locks = false ∧ (Jvm.Cond.and given_1 narrow_1).before #[Value.ref b] s = true

theorem nest_of {w : Cond} (hw : isNest w = true) {s : State} {A : Array Value} (h : w.before A s = true) : w.before #[] s = true := by
  cases w
  all_goals first | exact Bool.noConfusion hw | exact va_Nw.of rfl h
theorem ac_of {args : Array Value} {s : State} {ty : FieldType} (h : (Cond.arrayClass ty).before args s = true) (ho : ∀ C, ty ≠ .object C) : ∃ c : ClassId, ArrOfT s c ty ∧ va_RA s c ty := by
  obtain ⟨c, k, comp, h1, h2, h3⟩ := Cond.arrayClass_spec h
  refine ⟨c, fun N z => ⟨(fun q hq => by cases hq), k, h2, comp, h3⟩, ?_⟩
  cases ty <;> first | exact h1 | exact absurd rfl (ho _)
theorem ao_of {s : State} {C : String} (h : va_AO C s) : ∃ c : ClassId, ArrOfT s c (.object C) ∧ va_RA s c (.object C) := by
  obtain ⟨comp, c, k, h1, h2, h3, h4, h5⟩ := Cond.arrayOver_spec h
  exact ⟨c, fun N z => ⟨(fun q hq => by cases hq), k, h3, comp, h4⟩, k, comp, h3, h4, h1, h5⟩
theorem aoa_of {s : State} {t : FieldType} (h : va_AOA t s) : ∃ c : ClassId, ArrOfT s c (.array t) ∧ va_RA s c (.array t) := by
  obtain ⟨comp, c, k, h1, h2, h3, h4, h5⟩ := arrayOverA_spec h
  exact ⟨c, fun N z => ⟨(fun q hq => by cases hq), k, h3, comp, h4⟩, h5⟩
set_option maxRecDepth 20000 in
theorem str_w : ∀ q ∈ strT, Cond.stringRef q.1 q.2.1 q.2.2.1 ∈ lw_tbl := by decide +kernel
set_option maxRecDepth 20000 in
theorem str_x : ∀ q ∈ strT, Cond.exactly (.string q.1 q.2.1) "java/lang/String" ∈ flatC (Jvm.Cond.and given_1 narrow_1) := fun _ h => (str_y4 h).1.1
set_option maxRecDepth 20000 in
theorem str_1 : ∀ q ∈ strT, ∀ q' ∈ strT, q.2.2.2 = q'.2.2.2 → q = q' := by decide +kernel
set_option maxRecDepth 20000 in
theorem str_c : ∀ q ∈ strT, Cond.eq (.field (.string q.1 q.2.1) "java/lang/String" "coder" "B") (.int 0) ∈ flatC (Jvm.Cond.and given_1 narrow_1) := fun _ h => (str_y4 h).1.2
set_option maxRecDepth 20000 in
theorem str_a : ∀ q ∈ strT, Cond.arrayOf (.field (.string q.1 q.2.1) "java/lang/String" "value" "[B") .byte ∈ flatC (Jvm.Cond.and given_1 narrow_1) := fun _ h => (str_y4 h).2.1
set_option maxRecDepth 20000 in
theorem str_l : ∀ q ∈ strT, Cond.eq (.length (.field (.string q.1 q.2.1) "java/lang/String" "value" "[B")) (.int (Int32.ofNat q.2.2.1.length)) ∈ flatC (Jvm.Cond.and given_1 narrow_1) := fun _ h => (str_y4 h).2.2
theorem str_n : ∀ q ∈ strT, q.2.2.1.length < 2 ^ 31 := by decide +kernel
theorem cst_w : Cond.castable aNSE aNSE ∈ lw_tbl := by decide +kernel
theorem st_w : (Cond.laysStatic Bundle.tN "UNASSIGNED_STACK" Bundle.steD ∈ lw_tbl ∧ Cond.laysStatic Bundle.tN "SUPPRESSED_SENTINEL" Bundle.listD ∈ lw_tbl) ∧ Cond.initialized Bundle.tN ∈ lw_tbl := by decide +kernel
theorem st_x : Cond.isRef (.static Bundle.tN "UNASSIGNED_STACK" Bundle.steD) ∈ flatC (Jvm.Cond.and given_1 narrow_1) ∧ Cond.isRef (.static Bundle.tN "SUPPRESSED_SENTINEL" Bundle.listD) ∈ flatC (Jvm.Cond.and given_1 narrow_1) := by decide +kernel
theorem str_2 : ∀ q ∈ strT, q.2.2.2 < 300000 := by decide +kernel
theorem cst_l : Cond.laysStatic "java/lang/String" "COMPACT_STRINGS" "Z" ∈ lw_tbl ∧ Cond.initialized "java/lang/String" ∈ lw_tbl := by decide +kernel
theorem sio_l : Cond.laysStatic "jdk/internal/util/Preconditions" "SIOOBE_FORMATTER" "Ljava/util/function/BiFunction;" ∈ lw_tbl ∧ Cond.initialized "jdk/internal/util/Preconditions" ∈ lw_tbl := by decide +kernel
theorem sio_x : Cond.isRef (.static "jdk/internal/util/Preconditions" "SIOOBE_FORMATTER" "Ljava/util/function/BiFunction;") ∈ flatC (Jvm.Cond.and given_1 narrow_1) := by decide +kernel
theorem cst_x : Cond.eq (.static "java/lang/String" "COMPACT_STRINGS" "Z") (.int 1) ∈ flatC (Jvm.Cond.and given_1 narrow_1) := by decide +kernel
theorem ao_w : Cond.arrayOver (.object "DeepHole$Bit") ∈ lw_tbl := by decide +kernel
theorem aoa_w : Cond.arrayOver (.array .int) ∈ lw_tbl := by decide +kernel
/-- the memory at the law's entry: no object yet -/
def aM0 : aM := (0, 0, 0, fun _ => 0, fun _ => 0, fun _ _ => 0, fun _ _ => 0, fun _ _ => none)
/-- the script, as the law has it -/
abbrev aScr : List aV := [.inr (.inr (some aXS))]
set_option maxHeartbeats 4000000 in
set_option maxRecDepth 100000 in
/-- out of a run of the abstract machine to the law's own end -/
theorem law_start {p : Program} {e : Env} {s : State} {m : MethodId} {below : List Frame} {meth : Method} {c : Code} (l : Launch) (hl9 : l.stackTraces = false) {b L : Nat} {xs : Nat → Int32} (C0 : lw_At p s m meth c b L xs) (hrun9 : ∀ z : Bool, ∃ f M', exec (cd (L, xs, z)) f 40 252 0 (la 0 aScr) [] aM0 = some (some (.inl 1), M') ∧ a_c M' ≤ 601024 ∧ a_z M' ≤ 7293034) : W p l e room_1 s m #[Value.ref b] below meth c s.heap [] 0 0 (lw_Z below #[Value.ref b] s) (entryFrame m ([Value.ref b] : List Value).toArray 7) := by
  obtain ⟨hx, hb, hr, hml, hown, hts, hX, hbl, hlocks, hgv⟩ := C0
  have htb : ∀ w ∈ TB, w.before #[Value.ref b] s = true := fun w h => hts w (List.mem_filter.mp h).1
  obtain ⟨c0, i0, k0⟩ := u_known (C := RX0) (T := TX0) (N := 6) (n := 6) htb inT0 (htb _ tw_534)
  obtain ⟨c1, i1, k1⟩ := u_known (C := RX1) (T := TX1) (N := 10) (n := 10) htb inT1 (htb _ tw_352)
  obtain ⟨c2, i2, k2⟩ := u_known (C := RX2) (T := TX2) (N := 7) (n := 7) htb inT2 (htb _ tw_470)
  obtain ⟨c3, i3, k3⟩ := u_known (C := RX3) (T := TX3) (N := 7) (n := 7) htb inT3 (htb _ tw_346)
  obtain ⟨c4, i4, k4⟩ := u_known (C := RX4) (T := TX4) (N := 7) (n := 7) htb inT4 (htb _ tw_500)
  obtain ⟨c5, i5, k5⟩ := u_known (C := RX5) (T := TX5) (N := 4) (n := 4) htb inT5 (htb _ tw_178)
  obtain ⟨c6, i6, k6⟩ := u_known (C := RX6) (T := TX6) (N := 15) (n := 15) htb inT6 (htb _ tw_129)
  obtain ⟨c7, i7, k7⟩ := u_known (C := RX7) (T := TX7) (N := 7) (n := 7) htb inT7 (htb _ tw_436)
  obtain ⟨c8, i8, k8⟩ := u_known (C := RX8) (T := TX8) (N := 19) (n := 19) htb inT8 (htb _ tw_172)
  obtain ⟨c9, i9, k9⟩ := u_known (C := RX9) (T := TX9) (N := 8) (n := 8) htb inT9 (htb _ tw_135)
  obtain ⟨c10, i10, k10⟩ := u_known (C := RX10) (T := TX10) (N := 8) (n := 8) htb inT10 (htb _ tw_562)
  obtain ⟨c11, i11, k11⟩ := u_known (C := RX11) (T := TX11) (N := 12) (n := 12) htb inT11 (htb _ tw_121)
  obtain ⟨c12, i12, k12⟩ := u_known (C := RX12) (T := TX12) (N := 29) (n := 29) htb inT12 (htb _ tw_1481)
  obtain ⟨c13, i13, k13⟩ := u_known (C := RX13) (T := TX13) (N := 43) (n := 43) htb inT13 (htb _ tw_1333)
  obtain ⟨dC, dI, hKc⟩ : ∃ (dC : Nat → ClassId) (dI : Nat → Nat → Nat), ∀ (k : Nat) (q : vw_C), vwCl[k]? = some q → u_Kn s q.1 q.2.1 q.2.2 (dC k) (dI k) := by
    refine ⟨fun k => if k = 0 then c0 else if k = 1 then c1 else if k = 2 then c2 else if k = 3 then c3 else if k = 4 then c4 else if k = 5 then c5 else if k = 6 then c6 else if k = 7 then c7 else if k = 8 then c8 else if k = 9 then c9 else if k = 10 then c10 else if k = 11 then c11 else if k = 12 then c12 else c13, fun k => if k = 0 then i0 else if k = 1 then i1 else if k = 2 then i2 else if k = 3 then i3 else if k = 4 then i4 else if k = 5 then i5 else if k = 6 then i6 else if k = 7 then i7 else if k = 8 then i8 else if k = 9 then i9 else if k = 10 then i10 else if k = 11 then i11 else if k = 12 then i12 else i13, ?_⟩
    intro k q hq
    match k, hq with
    | 0, hq => cases hq; exact k0
    | 1, hq => cases hq; exact k1
    | 2, hq => cases hq; exact k2
    | 3, hq => cases hq; exact k3
    | 4, hq => cases hq; exact k4
    | 5, hq => cases hq; exact k5
    | 6, hq => cases hq; exact k6
    | 7, hq => cases hq; exact k7
    | 8, hq => cases hq; exact k8
    | 9, hq => cases hq; exact k9
    | 10, hq => cases hq; exact k10
    | 11, hq => cases hq; exact k11
    | 12, hq => cases hq; exact k12
    | 13, hq => cases hq; exact k13
    | k + 14, hq => simp [vwCl] at hq
  obtain ⟨cB, hB⟩ := ac_of (htb _ tw_170) (fun _ h => by cases h)
  obtain ⟨cI9, hI⟩ := ac_of (htb _ tw_202) (fun _ h => by cases h)
  obtain ⟨cJ, hJ⟩ := ac_of (htb _ tw_1592) (fun _ h => by cases h)
  obtain ⟨cZ, hZ⟩ := ac_of (htb _ tw_203) (fun _ h => by cases h)
  have hAO : va_AO "DeepHole$Bit" s := va_AO.of (hts _ ao_w)
  have hAOA : va_AOA .int s := va_AOA.of (hts _ aoa_w)
  obtain ⟨cQ, hQ⟩ := ao_of hAO
  obtain ⟨cR, hR⟩ := aoa_of hAOA
  have hfl := flat_of_before _ hgv
  obtain ⟨z, tz, hzt⟩ : ∃ (z : Bool) (tz : Nat), va_Z "jdk/internal/util/Preconditions" "SIOOBE_FORMATTER" "Ljava/util/function/BiFunction;" (bif z then .null else .ref tz) (fun q : Nat => s.heap.size ≤ q) s s.heap := by
    rcases va_Zqof (hts _ sio_l.1) (hts _ sio_l.2) (hfl _ sio_x) (A := fun q : Nat => s.heap.size ≤ q) (fun a h => Nat.not_le.mpr h) with h | ⟨tz, h⟩
    · exact ⟨true, 0, h⟩
    · exact ⟨false, tz, h⟩
  obtain ⟨f, M', hrun, hc9, hs9⟩ := hrun9 z
  obtain ⟨cy, e14, e15, e16, e17, e18, e19, e77⟩ : ∃ cy : Nat → ClassId, cy 14 = cB ∧ cy 15 = cI9 ∧ cy 16 = cJ ∧ cy 17 = cZ ∧ cy 18 = cQ ∧ cy 19 = cR ∧ cyz cy = z := ⟨fun k => if k = 14 then cB else if k = 15 then cI9 else if k = 16 then cJ else if k = 17 then cZ else if k = 18 then cQ else if k = 19 then cR else bif z then cB else cB + 1, by
    refine ⟨by simp, by simp, by simp, by simp, by simp, by simp, ?_⟩
    unfold cyz
    cases z with
    | true => exact Nat.beq_refl cB
    | false => exact nbF (show ¬ cB + 1 = cB from Nat.succ_ne_self cB)⟩
  have hK : va_K (dC, dI) vwCl (tyK cy) s := by
    refine ⟨hKc, fun k q hq => ?_⟩
    unfold tyK at hq
    rw [e14, e15, e16, e17, e18, e19] at hq
    match k, hq with
    | 0, hq => cases hq; exact hB
    | 1, hq => cases hq; exact hI
    | 2, hq => cases hq; exact hJ
    | 3, hq => cases hq; exact hZ
    | 4, hq => cases hq; exact hQ
    | 5, hq => cases hq; exact hR
    | k + 6, hq => simp at hq
  have h0 : ∀ id : Nat, ∃ av : Nat × Nat, ∀ q ∈ strT, q.2.2.2 = id → vk_R q.1 q.2.1 q.2.2.1 av.1 s ∧ va_O "java/lang/String" av.1 (fun q : Nat => s.heap.size ≤ q) s s.heap ∧ va_OF "java/lang/String" "coder" "B" (.int 0) av.1 (fun q : Nat => s.heap.size ≤ q) s s.heap ∧ va_OF "java/lang/String" "value" "[B" (.ref av.2) av.1 (fun q : Nat => s.heap.size ≤ q) s s.heap ∧ va_T .byte av.2 q.2.2.1.length (fun j => .int (sby q.2.2.1 j)) (fun q : Nat => s.heap.size ≤ q) s s.heap := fun id => by
    by_cases h : ∃ q ∈ strT, q.2.2.2 = id
    · obtain ⟨q, hq, e⟩ := h
      obtain ⟨a, c9, cA, kA, h1, q2, q3, q4, q5, q6, -⟩ := Cond.exactly_spec (hfl _ (str_x q hq))
      have hA9 : ∀ a : Nat, a < s.heap.size → ¬ s.heap.size ≤ a := fun a h => Nat.not_le.mpr h
      obtain ⟨t, ht, hT⟩ := va_Tof (f := fun j => .int (sby q.2.2.1 j)) (A := fun q : Nat => s.heap.size ≤ q) (str_n q hq) (hfl _ (str_a q hq)) (va_eqt (hfl _ (str_l q hq))) (fun j hj => va_eqt (hfl _ (str_e q hq j hj))) hA9
      refine ⟨(a, t), fun q' hq' e' => ?_⟩
      have := str_1 q hq q' hq' (e.trans e'.symm)
      subst this
      exact ⟨vk_R.of (hts _ (str_w q hq)) h1, ⟨cA, q3, q5, by rw [q6]; exact q2, hA9 a (Array.getElem?_eq_some_iff.mp q3).1⟩, vk_OFof h1 (va_eqt (hfl _ (str_c q hq))) hA9, vk_OFof h1 ht hA9, hT⟩
    · exact ⟨(0, 0), fun q hq e => absurd ⟨q, hq, e⟩ h⟩
  obtain ⟨g, hg⟩ := Classical.axiomOfChoice h0
  obtain ⟨ad0, hadX, hadZ, hadS, hadT⟩ : ∃ ad0 : Nat → Nat, ad0 aXS = b ∧ ad0 (aSB + 800000) = tz ∧ (∀ id, id < 300000 → ad0 (aSB + id) = (g id).1) ∧ ∀ id, id < 300000 → ad0 (aSB + (400000 + id)) = (g id).2 := ⟨fun j => if j = aXS then b else if j = aSB + 800000 then tz else if aSB + 400000 ≤ j then (g (j - (aSB + 400000))).2 else (g (j - aSB)).1, by simp, by simp, fun id h => by
    show (if aSB + id = aXS then b else if aSB + id = aSB + 800000 then tz else if aSB + 400000 ≤ aSB + id then (g (aSB + id - (aSB + 400000))).2 else (g (aSB + id - aSB)).1) = (g id).1
    rw [if_neg (show ¬ aSB + id = aXS by show ¬ aSB + id = aSB + 900000; omega), if_neg (by omega), if_neg (by omega), show aSB + id - aSB = id by omega], fun id h => by
    show (if aSB + (400000 + id) = aXS then b else if aSB + (400000 + id) = aSB + 800000 then tz else if aSB + 400000 ≤ aSB + (400000 + id) then (g (aSB + (400000 + id) - (aSB + 400000))).2 else (g (aSB + (400000 + id) - aSB)).1) = (g id).2
    rw [if_neg (show ¬ aSB + (400000 + id) = aXS by show ¬ aSB + (400000 + id) = aSB + 900000; omega), if_neg (by omega), if_pos (by omega), show aSB + (400000 + id) - (aSB + 400000) = id by omega]⟩
  have hStr : aStr ad0 s := fun q hq => by rw [hadS _ (str_2 q hq)]; exact (hg q.2.2.2 q hq rfl).1
  have hNst : aNst s := ⟨fun w hw => nest_of (List.mem_filter.mp hw).2 (hts w (List.mem_filter.mp hw).1), hAO, hAOA, va_Nw.of rfl (hts _ cst_w)⟩
  have hbA : ¬ aA cy ad0 aM0 s (ad0 aXS) := fun h => by
    rw [hadX] at h
    rcases h with ⟨k, e9, h⟩ | h
    · simp [wl, aM0, a_n] at h
    · exact Nat.not_lt.mpr h hbl
  have hAn : ∀ q : Nat, aA cy ad0 aM0 s q → s.heap.size ≤ q := fun q h => by
    rcases h with ⟨k, e9, h⟩ | h
    · simp [wl, aM0, a_n] at h
    · exact h
  have hAs : ∀ a : Nat, a < s.heap.size → ¬ aA cy ad0 aM0 s a := fun a h z => Nat.not_lt.mpr (hAn a z) h
  have hZ9 : aZ cy ad0 (aA cy ad0 aM0 s) s s.heap := ⟨⟨vx_Zqof (hts _ st_w.1.1) (hts _ st_w.2) (hfl _ st_x.1) hAs, vx_Zqof (hts _ st_w.1.2) (hts _ st_w.2) (hfl _ st_x.2) hAs⟩, fun q hq => by
    rw [hadS _ (str_2 q hq), hadT _ (str_2 q hq)]
    obtain ⟨-, h1, h2, h3, h4⟩ := hg q.2.2.2 q hq rfl
    exact ⟨h1.narrow hAn, h2.narrow hAn, h3.narrow hAn, h4.narrow hAn⟩, va_Zof (hts _ cst_l.1) (hts _ cst_l.2) (va_eqt (hfl _ cst_x)) hAs, by
    unfold sioV
    rw [e77, hadZ]
    exact hzt.narrow hAn⟩
  have hX9 : aX (L, xs, z) l F_252 p room_1 s m #[Value.ref b] meth c (dC, dI) cy ad0 aM0 := ⟨⟨hx, hb, hml, hown, htb⟩, hr, hlocks, fun e9 => absurd e9 (by decide), hK, ⟨hStr, hNst⟩, by decide, by decide, hZ9, e77.symm, fun _ => ⟨by rw [hadX]; exact hX, by rw [hadX]; exact hbl, hbA, hl9, by decide, by decide⟩⟩
  have hl := lv_entry ([.ref b]) (n := 7) (Nat.le_of_ble_eq_true rfl)
  rw [lg_entry_eq]
  generalize (lg_sl ([.ref b]) ++ List.replicate (7 - (lg_sl ([.ref b])).length) Slot.unset).toArray = ls at hl ⊢
  have hl : lv_has ls 7 ((la 0 aScr).map (tq ad0)) := by
    have e9 : (la 0 aScr).map (tq ad0) = [(0, .ref b)] := by
      show [((0 : Nat), va_rf (some (ad0 aXS)))] = _
      rw [hadX]
      rfl
    rw [e9]
    exact hl
  have hv1 : ∀ q ∈ la 0 aScr, vok (a_n aM0) q.2 := fun q hq => by
    rcases List.mem_cons.mp hq with e9 | h9
    · rw [e9]
      exact fun j hj => Or.inr (by cases hj; decide)
    · cases h9
  have hv2 : ∀ v ∈ ([] : List aV), vok (a_n aM0) v := fun v hv => by cases hv
  have hS := (snd_exec (sc := (L, xs, z)) (fun mid pc i h => (cd_ok mid pc i h).1) (fun mid pc i h => (cd_ok mid pc i h).2) f 40 252 0 (la 0 aScr) [] aM0 _ M' hrun).2 p l e room_1 s m #[Value.ref b] below meth c (dC, dI) cy ad0 aM0 (by rw [cI_252]; exact hX9) (by decide) (by decide) mle_rf (Nat.le_trans (Nat.sub_le _ _) hc9) (Nat.le_trans (Nat.sub_le _ _) hs9) ad0 s.heap [] ls agr_rf
    ⟨fun k q h => by simp [wl, aM0, a_n] at h, ⟨fun i j p q h => by simp [wl, aM0, a_n] at h, fun k q h => by simp [wl, aM0, a_n] at h⟩, va_S.rf, ⟨by decide, fun i k j h => by simp [aM0, a_P] at h⟩, by rw [cI_252]; exact hl, hv1, hv2⟩
  intro T hT X
  obtain ⟨t, a1, o, b1, b2, b3, L9, b4, b5⟩ := hS T hT X
  obtain ⟨⟨ad', _, ho, _⟩, _⟩ := b3
  refine ⟨t, a1, o, b1, b2, ho, b4.1, b4.2.1, b4.2.2.weaken (fun q hq hlt => ?_) (Nat.le_trans (Nat.sub_le _ _) hc9) (Nat.le_trans (Nat.sub_le _ _) hs9)⟩
  rcases b5 q hq with ⟨k, e9, h⟩ | h
  · simp [wl, aM0, a_n] at h
  · exact absurd hlt (Nat.not_lt.mpr h)

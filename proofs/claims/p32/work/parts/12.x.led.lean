/-! the law's own led -/
theorem wl_bmp {cy : Nat → ClassId} {ad : Nat → Nat} {M : aM} : wl cy ad (a_bmp M) = wl cy ad M := by
  unfold wl
  exact List.map_congr_left (fun i _ => by rw [wE_cong (M := M) (M' := a_bmp M) rfl rfl rfl rfl (fun _ => rfl)])
theorem good_TB1 {w : Cond} (h : w ∈ TB) : (w.onTables && w.keeps) = true ∨ ∃ ty, w = .arrayClass ty := (good_TB w h).2
set_option maxHeartbeats 4000000 in
theorem led_caught {sc : aSc} {cd : Nat → Nat → Option aI} {cI : Nat → aF} (hcd : ∀ mid pc i, cd mid pc = some i → aS sc cI (cI mid) pc i) (hpl : ∀ mid pc i, cd mid pc = some i → plainFor (cI mid).1 = true) {l : Launch} (hl : l.stackTraces = false) {f d y stop ik ic : Nat} {x o : Nat} {i : Int32} {M M1 : aM} {lo1 : aL} {G GL : aF} (hG : cI y = G) (hst : exl cd stop f d y 0 (la 0 [.inr (.inr (some x)), .inl i]) [] M = some (.inr (lo1, [], M1)))
    (hp : plainName G.1.cls = true) (hnl : G.1 ≠ yL_law) (hcs : 2 ≤ G.2.2.1) (d0 : decode G.2.1 stop = .ok (.new ik, 3)) (d3 : decode G.2.1 (stop + 3) = .ok (.dup, 1)) (d4 : decode G.2.1 (stop + 4) = .ok (.invokespecial ic, 3)) (d7 : decode G.2.1 (stop + 7) = .ok (.athrow, 1))
    (hk : Cond.classLink G.1.cls ik aNSE ∈ TB) (hini : Cond.initialized aNSE ∈ TB) (hat : ∀ w ∈ (vx_at0 G.1.cls ic aNSE led_nm).filter goodWord, w ∈ TB) (hat2 : ∀ w ∈ (vx_at0 G.1.cls ic aNSE led_nm).filter (fun w => !goodWord w), w ∈ NW) (hgood : ∀ w ∈ Cond.classLink G.1.cls ik aNSE :: Cond.initialized aNSE :: vx_at0 G.1.cls ic aNSE led_nm, vx_ot w = true)
    {ix jx ci : Nat} {C : String} {T : u_T} {N : Nat} {ty : Nat → FieldType} (K : aKl ci C T N ty) (hC : G.1.cls = C) (hy : aY G 1) (h1 : Cond.methodLink GL.1.cls ix G.1 ∈ TB) (h2 : Cond.instanceMethod G.1 ∈ TB) (h3 : Cond.selects C G.1 G.1 ∈ TB)
    (hpL : plainName GL.1.cls = true) (hmL : GL.2.2 = (4, some .int)) (hj : Cond.classLink GL.1.cls jx aNSE ∈ TB) (e0 : decode GL.2.1 0 = .ok (.aload_n 2, 1)) (e1 : decode GL.2.1 1 = .ok (.iconst 0, 1)) (e2 : decode GL.2.1 2 = .ok (.aload_n 0, 1)) (e3 : decode GL.2.1 3 = .ok (.iload_n 1, 1)) (e4 : decode GL.2.1 4 = .ok (.invokevirtual ix, 3)) (e12 : decode GL.2.1 12 = .ok (.astore_n 3, 1)) (e13 : decode GL.2.1 13 = .ok (.iconst 1, 1)) (e14 : decode GL.2.1 14 = .ok (.ireturn, 1)) (hjx : jx ≠ 0)
    (D : va_G) (cy : Nat → ClassId) (hz9 : sc.2.2 = cyz cy) (ad : Nat → Nat) (sz : Nat) (hwf : wf M) (hx9 : x < a_n M) (hkx : a_K M x = ci) :
    Met l GL.1 (.codeWith GL.1 GL.2.1 4 (some .int) [(0, 9, 12, jx)] :: TB) { frames := d + 9, cells := a_c (a_bmp M1) - a_c M, slots := a_z (a_bmp M1) - a_z M, locals := 60 * d + 260 } (va_Pc [.ref (ad x), .int i, .ref (ad o)] (aPre D cy ad M sz)) (aPost D cy ad M sz (some (.inl 1)) (a_bmp M1)) (a_c (a_bmp M1) - a_c M) (a_z (a_bmp M1) - a_z M) (va_A (wl cy ad M) sz) := by
  refine va_MetW (cc := GL.2.1) (maxL := 4) (ret := some .int) hpL rfl ?_
  intro p e s m args below meth c s₁ B hml hv
  obtain ⟨rfl, hsz, hP, hK, hD0, hE, hZ⟩ := hv
  subst hsz
  have hts := atoms_spec (ws := .codeWith GL.1 GL.2.1 4 (some .int) [(0, 9, 12, jx)] :: TB) B.pre
  have htb : ∀ w ∈ TB, w.before _ s = true := fun w hw => hts w (List.mem_cons_of_mem _ hw)
  have htab := vx_table (x := GL.1) B (hts _ List.mem_cons_self)
  have hx := B.exec
  have hb := B.bytes
  have hr := B.returns
  have hown : s.vm.findClass GL.1.cls = some m.cls := findClass_of_methodNamed B.named
  have hlocks := B.notSynchronized
  have hl9 := lv_entry ([.ref (ad x), .int i, .ref (ad o)]) (n := 4) (Nat.le_of_ble_eq_true rfl)
  rw [lg_entry_eq]
  generalize (lg_sl ([.ref (ad x), .int i, .ref (ad o)]) ++ List.replicate (4 - (lg_sl ([.ref (ad x), .int i, .ref (ad o)])).length) Slot.unset).toArray = ls at hl9 ⊢
  have hl9 : lv_has ls 4 [(0, .ref (ad x)), (1, .int i), (2, .ref (ad o))] := hl9
  refine lv_aload_n hx hb e0 rfl (lv_at hl9 2 rfl) ?_
  refine lv_iconst (v := 0) hx hb e1 (by decide) ?_
  refine lv_aload_n hx hb e2 rfl (lv_at hl9 0 rfl) ?_
  refine lv_iload_n hx hb e3 rfl (lv_at hl9 1 rfl) ?_
  have he := wl_at (cy := cy) (ad := ad) hx9
  rw [wE_obj hkx K.2.1] at he
  have hCI : Cond.initialized C ∈ TB := hC ▸ hy.2.2.2.1
  have hT := led_throws hcd hpl hl hG hst hp hnl hcs d0 d3 d4 d7 hk hini hat hat2 hgood D cy hz9 ad s.heap.size hwf (vok_c (fun j e => by cases e; exact Or.inl hx9) (vok_c vok_i (fun _ h => nomatch h)))
  refine vx_calli (A0 := va_A (wl cy ad M) s.heap.size) (H0 := s.heap) (vx_runV (As := [.int i]) (b := ad x) (rest := [.int 0, .ref (ad o)]) (C := C) ⟨hx, hb, hml, hown, htb⟩ hT
    (cwV 1 htb (good_c h1 (good_c h2 (good_c h3 (good_c hCI (good_c hy.1 good_TB))))) rfl rfl rfl ⟨hC, hy.2.1⟩ ⟨Nat.le_refl _, by have := hy.2.2.1; show 8 + (G.2.2.1 + 11) + (60 * d + 200) ≤ 60 * d + 260; omega⟩)
    ⟨pre_blind, va_recv hK hP K.1 he, fun U hU hW => ⟨rfl, by rw [hU], by rw [hU]; exact hP, va_K.moved hW.alike hK, hD0, hE.warm hW, by rw [hU]; exact hZ.moved hW.alike⟩⟩
    rfl rfl hl9.1 rfl (lv_room (Nat.le_of_ble_eq_true rfl)) e4 ⟨by show 0 + _ ≤ _; rw [Nat.zero_add]; exact Nat.le_refl _, by show 0 + _ ≤ _; rw [Nat.zero_add]; exact Nat.le_refl _⟩) va_S.rf (fun _ _ h => h) (fun _ h => h) (fun _ _ h => h) ?_ (fun r u t H1 locs1 _ _ hf _ _ _ _ => hf.elim)
  intro E ce q9 u t H1 locs1 ht hvm _ hB hz hk9 hS1 hcell hv hcl
  obtain ⟨rfl, ha', hP', hD', hwf'⟩ := hB
  rw [ht] at hP'
  refine vx_catch (own := GL.1.cls) (name := aNSE) hown [] ⟨0, 9, 12, jx⟩ [] htab (fun z h => nomatch h) rfl hjx (htb _ hj) (va_Nw.use rfl hE.2.2.2.2) hcell hv hcl ?_
  refine lv_astore_n (lv' := [(3, .ref q9), (0, .ref (ad x)), (1, .int i), (2, .ref (ad o))]) hx hb e12 rfl hl9 (by decide) rfl (fun ls hl9 => ?_)
  refine lv_iconst (v := 1) hx hb e13 (by decide) ?_
  rw [Nat.zero_add, Nat.zero_add]
  exact W.iret (v := 1) hx hb hr (fun t9 ht9 _ => ⟨⟨u, ha', rfl, by rw [ht9, wl_bmp]; exact hP', by rw [wl_bmp]; exact hD', hwf', fun w e => by cases e; exact vok_i⟩, hS1.F ht9⟩) hS1.2.2 e14
set_option maxRecDepth 10000 in
theorem led_k2 {d n : Nat} (h : d ≤ 60) (g : 8000 ≤ n) : 8 + (4 + 11) + (60 * d + 260) ≤ n := Nat.le_trans (by omega : 8 + (4 + 11) + (60 * d + 260) ≤ 4000) (Nat.le_trans (by decide) g)
set_option maxRecDepth 10000 in
theorem led_k3 {d n : Nat} (h : d ≤ 60) (g : 8000 ≤ n) : 8 + (4 + 11) + (60 * (d + 1) + 20) ≤ n := Nat.le_trans (by omega : 8 + (4 + 11) + (60 * (d + 1) + 20) ≤ 4000) (Nat.le_trans (by decide) g)
def j_led (cd : Nat → Nat → Option aI) (f d ml mll ci stop pc' : Nat) : aI := fun lo st M => match st with
  | .inr (.inr (some o)) :: .inl i :: .inr (.inr (some x)) :: s => bif (Nat.blt x (a_n M) && Nat.beq (a_K M x) ci) && Nat.ble (csum s) 8 then
      match exl cd stop f d ml 0 (la 0 [.inr (.inr (some x)), .inl i]) [] M with
      | some (.inr (_, [], M1)) => some (.inl (pc', lo, .inl 1 :: s, a_bmp M1))
      | some (.inl _) => match exec cd f (d + 1) mll 0 (la 0 [.inr (.inr (some x)), .inl i, .inr (.inr (some o))]) [] M with
        | some (some v, M2) => some (.inl (pc', lo, v :: s, M2))
        | _ => none
      | _ => none
    else none
  | _ => none
set_option maxHeartbeats 4000000 in
theorem S_led {sc : aSc} {cI : Nat → aF} {cd : Nat → Nat → Option aI} (hcd : ∀ mid pc i, cd mid pc = some i → aS sc cI (cI mid) pc i) (hpl : ∀ mid pc i, cd mid pc = some i → plainFor (cI mid).1 = true) {F : aF} (hF : F.1 = yL_law) {f d y mll stop ik ic pc lx : Nat} (hd9 : d ≤ 60) {G GL : aF} (hG : cI y = G) (hGL : cI mll = GL)
    (hp : plainName G.1.cls = true) (hnl : G.1 ≠ yL_law) (hcs : 2 ≤ G.2.2.1) (d0 : decode G.2.1 stop = .ok (.new ik, 3)) (d3 : decode G.2.1 (stop + 3) = .ok (.dup, 1)) (d4 : decode G.2.1 (stop + 4) = .ok (.invokespecial ic, 3)) (d7 : decode G.2.1 (stop + 7) = .ok (.athrow, 1))
    (hk : Cond.classLink G.1.cls ik aNSE ∈ TB) (hini : Cond.initialized aNSE ∈ TB) (hat : ∀ w ∈ (vx_at0 G.1.cls ic aNSE led_nm).filter goodWord, w ∈ TB) (hat2 : ∀ w ∈ (vx_at0 G.1.cls ic aNSE led_nm).filter (fun w => !goodWord w), w ∈ NW) (hgood : ∀ w ∈ Cond.classLink G.1.cls ik aNSE :: Cond.initialized aNSE :: vx_at0 G.1.cls ic aNSE led_nm, vx_ot w = true)
    {ix jx ci : Nat} {C : String} {T : u_T} {N : Nat} {ty : Nat → FieldType} (K : aKl ci C T N ty) (hC : G.1.cls = C) (hy : aY G 1) (h1 : Cond.methodLink GL.1.cls ix G.1 ∈ TB) (h2 : Cond.instanceMethod G.1 ∈ TB) (h3 : Cond.selects C G.1 G.1 ∈ TB)
    (hpL : plainName GL.1.cls = true) (hnL : GL.1 ≠ yL_law) (hmL : GL.2.2 = (4, some .int)) (hj : Cond.classLink GL.1.cls jx aNSE ∈ TB) (e0 : decode GL.2.1 0 = .ok (.aload_n 2, 1)) (e1 : decode GL.2.1 1 = .ok (.iconst 0, 1)) (e2 : decode GL.2.1 2 = .ok (.aload_n 0, 1)) (e3 : decode GL.2.1 3 = .ok (.iload_n 1, 1)) (e4 : decode GL.2.1 4 = .ok (.invokevirtual ix, 3)) (e12 : decode GL.2.1 12 = .ok (.astore_n 3, 1)) (e13 : decode GL.2.1 13 = .ok (.iconst 1, 1)) (e14 : decode GL.2.1 14 = .ok (.ireturn, 1)) (hjx : jx ≠ 0)
    (w1 : Cond.methodLink F.1.cls lx GL.1 ∈ TB) (w2 : Cond.static GL.1 ∈ TB) (w3 : Cond.initialized GL.1.cls ∈ TB) (w4 : Cond.codeWith GL.1 GL.2.1 4 (some .int) [(0, 9, 12, jx)] ∈ TB) (w5 : GL.1.cls ≠ "java/lang/invoke/MethodHandle" ∧ GL.1.cls ≠ "java/lang/invoke/VarHandle" ∧ (parseMethodDescriptor GL.1.desc).map (fun d => d.parameters.length) = some 3) (hd : decode F.2.1 pc = .ok (.invokestatic lx, 3)) : aS sc cI F pc (j_led cd f d y mll ci stop (pc + 3)) := aS_n fun lo st M r e => by
  obtain ⟨yL, cL, mL⟩ := GL
  cases hmL
  unfold j_led at e
  split at e
  · rename_i o i x s
    cases hb9 : ((Nat.blt x (a_n M) && Nat.beq (a_K M x) ci) && Nat.ble (csum s) 8) with
    | false => rw [hb9] at e; cases e
    | true =>
      rw [hb9] at e
      obtain ⟨hb1, hb2⟩ := (Bool.and_eq_true _ _).mp hb9
      obtain ⟨hb3, hb4⟩ := (Bool.and_eq_true _ _).mp hb1
      have hx9 := blt_lt hb3
      have hkx := nbT hb4
      have hcs9 := Nat.le_of_ble_eq_true hb2
      simp only [cond_true] at e
      split at e
      · rename_i lo1 M1 hst
        cases e
        obtain ⟨g1, -⟩ := snd_exl hcd hpl f d y 0 _ [] M lo1 [] M1 hst
        have gle : mle M (a_bmp M1) := ⟨g1.1, Nat.le_succ_of_le g1.2.1, Nat.le_trans g1.2.2 (Nat.le_add_right _ _)⟩
        refine ⟨_, _, _, _, rfl, gle, ?_⟩
        intro p l e R s9 m args below meth c D cy ad0 M0 Q hX hn hc hs hG9 ad H locs ls ha hW
        have hW9 := hW
        obtain ⟨hP, hD, hS, hwf, hl, hvl, hvs⟩ := hW
        obtain ⟨-, -, -, hst9, hfr, hlo⟩ := hX.2.2.2.2.2.2.2.2.2.2 hF
        have k1 : d + 9 + 1 ≤ R.frames := by omega
        have k2 : 8 + (4 + 11) + (60 * d + 260) ≤ R.locals := led_k2 hd9 hlo
        have hM := led_caught (o := o) hcd hpl hst9 hG hst hp hnl hcs d0 d3 d4 d7 hk hini hat hat2 hgood K hC hy h1 h2 h3 hpL rfl hj e0 e1 e2 e3 e4 e12 e13 e14 hjx D cy hX.2.2.2.2.2.2.2.2.2.1 ad H.size hwf hx9 hkx
        refine call_go (r := some (.inl 1)) (rest := s) (aa := [Value.ref (ad x), .int i, .ref (ad o)].toArray) hn gle ha hW9 (vok_t (vok_t (vok_t hvs))) ?_ hG9
        exact vx_runSW (As := [.ref (ad x), .int i, .ref (ad o)]) hX.1 hM
          (vx_cwSW 3 hX.1.2.2.2.2 (good_c w1 (good_c w2 (good_c w3 (good_c w4 good_TB)))) rfl rfl rfl w5 ⟨k1, k2⟩)
          ⟨pre_blind, fun U hU hW => ⟨rfl, pre_ok hP hX.2.2.2.2.1 hD hS (hX.2.2.2.2.2.1.agr ha) (hX.2.2.2.2.2.2.2.2.1.agr ha) U hU hW⟩⟩
          rfl rfl hl.1 rfl (lv_room (by rw [csum_le]; exact hcs9)) hd (room_ok hn gle hc hs)
      · split at e
        · rename_i v M2 hex
          cases e
          obtain ⟨g1, g3⟩ := snd_exec hcd hpl f (d + 1) mll 0 _ [] M (some v) M2 hex
          rw [hGL] at g3
          refine ⟨_, _, _, _, rfl, g1, ?_⟩
          intro p l e R s9 m args below meth c D cy ad0 M0 Q hX hn hc hs hG9 ad H locs ls ha hW
          have hW9 := hW
          obtain ⟨hP, hD, hS, hwf, hl, hvl, hvs⟩ := hW
          obtain ⟨-, -, -, hst9, hfr, hlo⟩ := hX.2.2.2.2.2.2.2.2.2.2 hF
          have k1 : d + 1 + 1 + 1 ≤ R.frames := by omega
          have k2 : 8 + (4 + 11) + (60 * (d + 1) + 20) ≤ R.locals := led_k3 hd9 hlo
          have hM := met_ofH (sc := sc) (l := l) (hh := [(0, 9, 12, jx)]) (d := d + 1) (D := D) (cy := cy) (As := [.inr (.inr (some x)), .inl i, .inr (.inr (some o))]) hpL hX.2.2.2.2.2.2.2.2.2.1 hnL (by show 3 ≤ 4; omega) (fun p e R s m args below meth c ad0 a1 a2 a3 a4 a5 => g3 p l e R s m args below meth c D cy ad0 M a1 a2 a3 mle_rf a4 a5) ad H.size hwf (vok_c (hvs _ (List.mem_cons_of_mem _ (List.mem_cons_of_mem _ List.mem_cons_self))) (vok_c vok_i (vok_c (hvs _ List.mem_cons_self) (fun _ h => nomatch h))))
          refine call_go (r := some v) (rest := s) (aa := [Value.ref (ad x), .int i, .ref (ad o)].toArray) hn g1 ha hW9 (vok_t (vok_t (vok_t hvs))) ?_ hG9
          exact vx_runSW (As := [.ref (ad x), .int i, .ref (ad o)]) hX.1 hM
            (vx_cwSW 3 hX.1.2.2.2.2 (good_c w1 (good_c w2 (good_c w3 (good_c w4 good_TB)))) rfl rfl rfl w5 ⟨k1, k2⟩)
            ⟨pre_blind, fun U hU hW => ⟨rfl, pre_ok hP hX.2.2.2.2.1 hD hS (hX.2.2.2.2.2.1.agr ha) (hX.2.2.2.2.2.2.2.2.1.agr ha) U hU hW⟩⟩
            rfl rfl hl.1 rfl (lv_room (by rw [csum_le]; exact hcs9)) hd (room_ok hn g1 hc hs)
        · cases e
      · cases e
  · cases e

abbrev mI (I : Nat → Nat → Int32) : aM := (137, a_z cM, a_c cM, a_K cM, a_N cM, I, a_J cM, a_P cM)
theorem ast_S {cd : Nat → Nat → Option aI} {d : Nat} {fs : List aFr} {mid pc : Nat} {lo : aL} {st : List aV} {M : aM} {Q : aQ} {g : Int32 → Int32} {nx kd a n : Nat} {i x : Int32} (hi : cd mid pc = some (j_ast g nx kd)) (hg : (Nat.blt a (a_n M) && Nat.beq (a_K M a) kd) = true) (hn : a_N M a = n) (hin : inb i n = true) (h : wpS cd (d, fs, mid, nx, lo, st, s_I M a i.toNatClampNeg (g x)) Q) : wpS cd (d, fs, mid, pc, lo, .inl x :: .inl i :: .inr (.inr (some a)) :: st, M) Q := by
  subst hn
  exact wp_step hi (show (bif _ then _ else _) = _ by rw [hg, hin]; rfl) h
theorem up2_i {f : Nat → Nat → Int32} {a k : Nat} {v : Int32} : up2 f a k v a k = v := by rw [up2_eq, if_pos ⟨rfl, rfl⟩]
def bI (I : Nat → Nat → Int32) (b t s : Nat) (k x : Int32) : Nat → Nat → Int32 := up2 (up2 I b k.toNatClampNeg (vp_nar .byte x)) t s (k + 1)
set_option maxRecDepth 100000 in
set_option maxHeartbeats 100000000 in
theorem put_it (xs : Nat → Int32) (I : Nat → Nat → Int32) (k v sh : Int32) (fs : List aFr) (d : Nat) (hk : I 2 1 = k) (h0 : ¬ k < 0) (h7 : ¬ Int32.ofNat 700 ≤ k) (hin : inb k 700 = true) (h : wpS (cdL 6 xs) (d, fs, 88, 49, [(2, .inl sh), (0, .inr (.inr (some 2))), (1, .inl v)], [], mI (bI I 3 2 1 k ((v.toUInt32 >>> (sh.toUInt32 &&& Int32.toUInt32 31)).toInt32.toInt8.toInt32))) Q1) : wpS (cdL 6 xs) (d, fs, 88, 7, [(2, .inl sh), (0, .inr (.inr (some 2))), (1, .inl v)], [], mI I) Q1 := by
  refine cut (sm := 88) (sp := 11) (n := 9) (S' := (d, fs, 88, 11, [(2, .inl sh), (0, .inr (.inr (some 2))), (1, .inl v)], [.inl (I 2 1)], mI I)) rfl ?_
  rw [hk]
  refine if_S (g := fun x => decide (x < 0)) (t := 49) (nx := 14) (v := k) (b := false) rfl rfl (decide_eq_false h0) ?_
  refine cut (sm := 88) (sp := 22) (n := 9) (S' := (d, fs, 88, 22, [(2, .inl sh), (0, .inr (.inr (some 2))), (1, .inl v)], [.inr (.inr (some 3)), .inl (I 2 1)], mI I)) rfl ?_
  rw [hk]
  refine alen_S (n := 700) rfl rfl rfl ?_
  refine ifc_S (g := fun x y => decide (y ≤ x)) (t := 49) (nx := 26) (x := k) (y := Int32.ofNat 700) (b := false) rfl rfl (decide_eq_false h7) ?_
  refine cut (sm := 88) (sp := 34) (n := 9) (S' := (d, fs, 88, 34, [(2, .inl sh), (0, .inr (.inr (some 2))), (1, .inl v)], [.inl (I 2 1), .inr (.inr (some 3))], mI I)) rfl ?_
  rw [hk]
  refine cut (sm := 88) (sp := 38) (n := 9) (S' := (d, fs, 88, 38, [(2, .inl sh), (0, .inr (.inr (some 2))), (1, .inl v)], [.inl ((v.toUInt32 >>> (sh.toUInt32 &&& Int32.toUInt32 31)).toInt32.toInt8.toInt32), .inl k, .inr (.inr (some 3))], mI I)) rfl ?_
  refine ast_S (n := 700) rfl rfl rfl hin ?_
  refine cut (sm := 88) (sp := 44) (n := 9) (S' := (d, fs, 88, 44, [(2, .inl sh), (0, .inr (.inr (some 2))), (1, .inl v)], [.inl (I 2 1), .inr (.inr (some 2))], mI (up2 I 3 k.toNatClampNeg (vp_nar .byte ((v.toUInt32 >>> (sh.toUInt32 &&& Int32.toUInt32 31)).toInt32.toInt8.toInt32))))) rfl ?_
  rw [hk]
  exact cut (sm := 88) (sp := 49) (n := 9) rfl h
set_option maxRecDepth 100000 in
set_option maxHeartbeats 100000000 in
theorem fd_it (xs : Nat → Int32) (I : Nat → Nat → Int32) (k w j a b c dd e : Int32) (fs : List aFr) (d : Nat) (hk : I 113 6 = k) (hin : inb k 700 = true) (h : wpS (cdL 6 xs) (d, fs, 181, 111, [(7, .inl w), (6, .inl j), (0, .inr (.inr (some 113))), (1, .inl a), (2, .inl b), (3, .inl c), (4, .inl dd), (5, .inl e)], [], mI (bI I 114 113 6 k ((w >>> ((24 - 8 * (j - j / 4 * 4)) &&& 31)).toInt8.toInt32))) Q1) : wpS (cdL 6 xs) (d, fs, 181, 78, [(7, .inl w), (6, .inl j), (0, .inr (.inr (some 113))), (1, .inl a), (2, .inl b), (3, .inl c), (4, .inl dd), (5, .inl e)], [], mI I) Q1 := by
  refine cut (sm := 181) (sp := 86) (n := 9) (S' := (d, fs, 181, 86, [(7, .inl w), (6, .inl j), (0, .inr (.inr (some 113))), (1, .inl a), (2, .inl b), (3, .inl c), (4, .inl dd), (5, .inl e)], [.inl (I 113 6), .inr (.inr (some 114))], mI I)) rfl ?_
  rw [hk]
  refine cut (sm := 181) (sp := 100) (n := 14) (S' := (d, fs, 181, 100, [(7, .inl w), (6, .inl j), (0, .inr (.inr (some 113))), (1, .inl a), (2, .inl b), (3, .inl c), (4, .inl dd), (5, .inl e)], [.inl ((w >>> ((24 - 8 * (j - j / 4 * 4)) &&& 31)).toInt8.toInt32), .inl k, .inr (.inr (some 114))], mI I)) rfl ?_
  refine ast_S (n := 700) rfl rfl rfl hin ?_
  refine cut (sm := 181) (sp := 106) (n := 9) (S' := (d, fs, 181, 106, [(7, .inl w), (6, .inl j), (0, .inr (.inr (some 113))), (1, .inl a), (2, .inl b), (3, .inl c), (4, .inl dd), (5, .inl e)], [.inl (I 113 6), .inr (.inr (some 113))], mI (up2 I 114 k.toNatClampNeg (vp_nar .byte ((w >>> ((24 - 8 * (j - j / 4 * 4)) &&& 31)).toInt8.toInt32))))) rfl ?_
  rw [hk]
  exact cut (sm := 181) (sp := 111) (n := 9) rfl h
set_option maxRecDepth 100000 in
set_option maxHeartbeats 100000000 in
theorem p1_op_0 (xs : Nat → Int32)  : p1K xs 0 := by
  have e0 : a_I cM 2 1 = 0 := rfl
  refine cut (sm := 88) (sp := 7) (n := 60) (S' := (_, _, _, _, _, _, mI (a_I cM))) rfl ?_
  refine put_it xs _ 0 _ _ _ _ e0 (by decide) (by decide) (by decide) ?_
  refine cut (sm := 88) (sp := 7) (n := 60) (S' := (_, _, _, _, _, _, _)) rfl ?_
  refine put_it xs _ 1 _ _ _ _ (show bI _ 3 2 1 0 _ 2 1 = 1 from up2_i) (by decide) (by decide) (by decide) ?_
  refine cut (sm := 88) (sp := 7) (n := 60) (S' := (_, _, _, _, _, _, _)) rfl ?_
  refine put_it xs _ 2 _ _ _ _ (show bI _ 3 2 1 1 _ 2 1 = 2 from up2_i) (by decide) (by decide) (by decide) ?_
  refine cut (sm := 88) (sp := 7) (n := 60) (S' := (_, _, _, _, _, _, _)) rfl ?_
  refine put_it xs _ 3 _ _ _ _ (show bI _ 3 2 1 2 _ 2 1 = 3 from up2_i) (by decide) (by decide) (by decide) ?_
  refine cut (sm := 88) (sp := 7) (n := 60) (S' := (_, _, _, _, _, _, _)) rfl ?_
  refine put_it xs _ 4 _ _ _ _ (show bI _ 3 2 1 3 _ 2 1 = 4 from up2_i) (by decide) (by decide) (by decide) ?_
  refine cut (sm := 88) (sp := 7) (n := 60) (S' := (_, _, _, _, _, _, _)) rfl ?_
  refine put_it xs _ 5 _ _ _ _ (show bI _ 3 2 1 4 _ 2 1 = 5 from up2_i) (by decide) (by decide) (by decide) ?_
  refine cut (sm := 88) (sp := 7) (n := 60) (S' := (_, _, _, _, _, _, _)) rfl ?_
  refine put_it xs _ 6 _ _ _ _ (show bI _ 3 2 1 5 _ 2 1 = 6 from up2_i) (by decide) (by decide) (by decide) ?_
  refine cut (sm := 88) (sp := 7) (n := 60) (S' := (_, _, _, _, _, _, _)) rfl ?_
  refine put_it xs _ 7 _ _ _ _ (show bI _ 3 2 1 6 _ 2 1 = 7 from up2_i) (by decide) (by decide) (by decide) ?_
  refine cut (sm := 88) (sp := 7) (n := 60) (S' := (_, _, _, _, _, _, _)) rfl ?_
  refine put_it xs _ 8 _ _ _ _ (show bI _ 3 2 1 7 _ 2 1 = 8 from up2_i) (by decide) (by decide) (by decide) ?_
  refine cut (sm := 88) (sp := 7) (n := 60) (S' := (_, _, _, _, _, _, _)) rfl ?_
  refine put_it xs _ 9 _ _ _ _ (show bI _ 3 2 1 8 _ 2 1 = 9 from up2_i) (by decide) (by decide) (by decide) ?_
  refine cut (sm := 88) (sp := 7) (n := 60) (S' := (_, _, _, _, _, _, _)) rfl ?_
  refine put_it xs _ 10 _ _ _ _ (show bI _ 3 2 1 9 _ 2 1 = 10 from up2_i) (by decide) (by decide) (by decide) ?_
  refine cut (sm := 88) (sp := 7) (n := 60) (S' := (_, _, _, _, _, _, _)) rfl ?_
  refine put_it xs _ 11 _ _ _ _ (show bI _ 3 2 1 10 _ 2 1 = 11 from up2_i) (by decide) (by decide) (by decide) ?_
  refine cut (sm := 88) (sp := 7) (n := 60) (S' := (_, _, _, _, _, _, _)) rfl ?_
  refine put_it xs _ 12 _ _ _ _ (show bI _ 3 2 1 11 _ 2 1 = 12 from up2_i) (by decide) (by decide) (by decide) ?_
  refine cut (sm := 88) (sp := 7) (n := 60) (S' := (_, _, _, _, _, _, _)) rfl ?_
  refine put_it xs _ 13 _ _ _ _ (show bI _ 3 2 1 12 _ 2 1 = 13 from up2_i) (by decide) (by decide) (by decide) ?_
  refine cut (sm := 88) (sp := 7) (n := 60) (S' := (_, _, _, _, _, _, _)) rfl ?_
  refine put_it xs _ 14 _ _ _ _ (show bI _ 3 2 1 13 _ 2 1 = 14 from up2_i) (by decide) (by decide) (by decide) ?_
  refine cut (sm := 88) (sp := 7) (n := 60) (S' := (_, _, _, _, _, _, _)) rfl ?_
  refine put_it xs _ 15 _ _ _ _ (show bI _ 3 2 1 14 _ 2 1 = 15 from up2_i) (by decide) (by decide) (by decide) ?_
  refine cut (sm := 88) (sp := 7) (n := 60) (S' := (_, _, _, _, _, _, _)) rfl ?_
  refine put_it xs _ 16 _ _ _ _ (show bI _ 3 2 1 15 _ 2 1 = 16 from up2_i) (by decide) (by decide) (by decide) ?_
  refine cut (sm := 88) (sp := 7) (n := 60) (S' := (_, _, _, _, _, _, _)) rfl ?_
  refine put_it xs _ 17 _ _ _ _ (show bI _ 3 2 1 16 _ 2 1 = 17 from up2_i) (by decide) (by decide) (by decide) ?_
  refine cut (sm := 88) (sp := 7) (n := 60) (S' := (_, _, _, _, _, _, _)) rfl ?_
  refine put_it xs _ 18 _ _ _ _ (show bI _ 3 2 1 17 _ 2 1 = 18 from up2_i) (by decide) (by decide) (by decide) ?_
  refine cut (sm := 88) (sp := 7) (n := 60) (S' := (_, _, _, _, _, _, _)) rfl ?_
  refine put_it xs _ 19 _ _ _ _ (show bI _ 3 2 1 18 _ 2 1 = 19 from up2_i) (by decide) (by decide) (by decide) ?_
  refine cut (sm := 246) (sp := 222) (n := 60) (S' := (_, _, _, _, _, [.inl 20], _)) rfl ?_
  refine cut (sm := 181) (sp := 9) (n := 60) (S' := (_, _, _, _, _, [.inl 0], _)) rfl ?_
  refine cut (sm := 181) (sp := 78) (n := 60) (S' := (_, _, _, _, _, _, _)) rfl ?_
  refine fd_it xs _ 0 _ _ _ _ _ _ _ _ _ rfl (by decide) ?_
  refine cut (sm := 181) (sp := 78) (n := 60) (S' := (_, _, _, _, _, _, _)) rfl ?_
  refine fd_it xs _ 1 _ _ _ _ _ _ _ _ _ (show bI _ 114 113 6 0 _ 113 6 = 1 from up2_i) (by decide) ?_
  refine cut (sm := 181) (sp := 78) (n := 60) (S' := (_, _, _, _, _, _, _)) rfl ?_
  refine fd_it xs _ 2 _ _ _ _ _ _ _ _ _ (show bI _ 114 113 6 1 _ 113 6 = 2 from up2_i) (by decide) ?_
  refine cut (sm := 181) (sp := 78) (n := 60) (S' := (_, _, _, _, _, _, _)) rfl ?_
  refine fd_it xs _ 3 _ _ _ _ _ _ _ _ _ (show bI _ 114 113 6 2 _ 113 6 = 3 from up2_i) (by decide) ?_
  refine cut (sm := 181) (sp := 78) (n := 60) (S' := (_, _, _, _, _, _, _)) rfl ?_
  refine fd_it xs _ 4 _ _ _ _ _ _ _ _ _ (show bI _ 114 113 6 3 _ 113 6 = 4 from up2_i) (by decide) ?_
  refine cut (sm := 181) (sp := 78) (n := 60) (S' := (_, _, _, _, _, _, _)) rfl ?_
  refine fd_it xs _ 5 _ _ _ _ _ _ _ _ _ (show bI _ 114 113 6 4 _ 113 6 = 5 from up2_i) (by decide) ?_
  refine cut (sm := 181) (sp := 78) (n := 60) (S' := (_, _, _, _, _, _, _)) rfl ?_
  refine fd_it xs _ 6 _ _ _ _ _ _ _ _ _ (show bI _ 114 113 6 5 _ 113 6 = 6 from up2_i) (by decide) ?_
  refine cut (sm := 181) (sp := 78) (n := 60) (S' := (_, _, _, _, _, _, _)) rfl ?_
  refine fd_it xs _ 7 _ _ _ _ _ _ _ _ _ (show bI _ 114 113 6 6 _ 113 6 = 7 from up2_i) (by decide) ?_
  refine cut (sm := 181) (sp := 78) (n := 60) (S' := (_, _, _, _, _, _, _)) rfl ?_
  refine fd_it xs _ 8 _ _ _ _ _ _ _ _ _ (show bI _ 114 113 6 7 _ 113 6 = 8 from up2_i) (by decide) ?_
  refine cut (sm := 181) (sp := 78) (n := 60) (S' := (_, _, _, _, _, _, _)) rfl ?_
  refine fd_it xs _ 9 _ _ _ _ _ _ _ _ _ (show bI _ 114 113 6 8 _ 113 6 = 9 from up2_i) (by decide) ?_
  refine cut (sm := 181) (sp := 78) (n := 60) (S' := (_, _, _, _, _, _, _)) rfl ?_
  refine fd_it xs _ 10 _ _ _ _ _ _ _ _ _ (show bI _ 114 113 6 9 _ 113 6 = 10 from up2_i) (by decide) ?_
  refine cut (sm := 181) (sp := 78) (n := 60) (S' := (_, _, _, _, _, _, _)) rfl ?_
  refine fd_it xs _ 11 _ _ _ _ _ _ _ _ _ (show bI _ 114 113 6 10 _ 113 6 = 11 from up2_i) (by decide) ?_
  refine cut (sm := 181) (sp := 78) (n := 60) (S' := (_, _, _, _, _, _, _)) rfl ?_
  refine fd_it xs _ 12 _ _ _ _ _ _ _ _ _ (show bI _ 114 113 6 11 _ 113 6 = 12 from up2_i) (by decide) ?_
  refine cut (sm := 181) (sp := 78) (n := 60) (S' := (_, _, _, _, _, _, _)) rfl ?_
  refine fd_it xs _ 13 _ _ _ _ _ _ _ _ _ (show bI _ 114 113 6 12 _ 113 6 = 13 from up2_i) (by decide) ?_
  refine cut (sm := 181) (sp := 78) (n := 60) (S' := (_, _, _, _, _, _, _)) rfl ?_
  refine fd_it xs _ 14 _ _ _ _ _ _ _ _ _ (show bI _ 114 113 6 13 _ 113 6 = 14 from up2_i) (by decide) ?_
  refine cut (sm := 181) (sp := 78) (n := 60) (S' := (_, _, _, _, _, _, _)) rfl ?_
  refine fd_it xs _ 15 _ _ _ _ _ _ _ _ _ (show bI _ 114 113 6 14 _ 113 6 = 15 from up2_i) (by decide) ?_
  refine cut (sm := 181) (sp := 78) (n := 60) (S' := (_, _, _, _, _, _, _)) rfl ?_
  refine fd_it xs _ 16 _ _ _ _ _ _ _ _ _ (show bI _ 114 113 6 15 _ 113 6 = 16 from up2_i) (by decide) ?_
  refine cut (sm := 181) (sp := 78) (n := 60) (S' := (_, _, _, _, _, _, _)) rfl ?_
  refine fd_it xs _ 17 _ _ _ _ _ _ _ _ _ (show bI _ 114 113 6 16 _ 113 6 = 17 from up2_i) (by decide) ?_
  refine cut (sm := 181) (sp := 78) (n := 60) (S' := (_, _, _, _, _, _, _)) rfl ?_
  refine fd_it xs _ 18 _ _ _ _ _ _ _ _ _ (show bI _ 114 113 6 17 _ 113 6 = 18 from up2_i) (by decide) ?_
  refine cut (sm := 181) (sp := 78) (n := 60) (S' := (_, _, _, _, _, _, _)) rfl ?_
  refine fd_it xs _ 19 _ _ _ _ _ _ _ _ _ (show bI _ 114 113 6 18 _ 113 6 = 19 from up2_i) (by decide) ?_
  refine cut (sm := 246) (sp := 256) (n := 60) (S' := (_, _, _, _, _, [.inl 20, .inl 20], _)) rfl ?_
  exact fin_S (n := 900) rfl

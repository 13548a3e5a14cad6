/-! Instructions on the stack and the locals. -/
theorem vok_c {n : Nat} {st : List aV} {w : aV} (hw : vok n w) (h : ∀ v ∈ st, vok n v) : ∀ v ∈ w :: st, vok n v := fun v hv => (List.mem_cons.mp hv).elim (fun q => q ▸ hw) (h v)
theorem vok_t {n : Nat} {st : List aV} {w : aV} (h : ∀ v ∈ w :: st, vok n v) : ∀ v ∈ st, vok n v := fun v hv => h v (List.mem_cons_of_mem _ hv)
def j_bin (pc' : Nat) (g : Int32 → Int32 → Int32) : aI := fun lo st M => match st with
  | .inl y :: .inl x :: t => some (.inl (pc', lo, .inl (g x y) :: t, M))
  | _ => none
def j_div (pc' : Nat) (g : Int32 → Int32 → Int32) : aI := fun lo st M => match st with
  | .inl y :: .inl x :: t => if y = 0 then none else some (.inl (pc', lo, .inl (g x y) :: t, M))
  | _ => none
def j_un (pc' : Nat) (g : Int32 → Int32) : aI := fun lo st M => match st with
  | .inl x :: t => some (.inl (pc', lo, .inl (g x) :: t, M))
  | _ => none
def aB (F : aF) (pc : Nat) (pre : List aV → List aV → Prop) (pc' : Nat) : Prop := ∀ (st st' : List aV) (lo : aL), pre st st' → aH F pc lo st pc' st'
theorem S_bin {sc : aSc} {cI : Nat → aF} {F : aF} {pc pc' : Nat} {g : Int32 → Int32 → Int32} (h : ∀ (x y : Int32) (t : List aV) (lo : aL), aH F pc lo (.inl y :: .inl x :: t) pc' (.inl (g x y) :: t)) : aS sc cI F pc (j_bin pc' g) := aS_n fun lo st M r e => by
  unfold j_bin at e
  split at e
  · cases e
    exact ⟨_, _, _, _, rfl, aN_st (fun _ q _ => vok_c vok_i (vok_t (vok_t q))) (h _ _ _ lo)⟩
  · cases e
theorem S_div {sc : aSc} {cI : Nat → aF} {F : aF} {pc pc' : Nat} {g : Int32 → Int32 → Int32} (h : ∀ (x y : Int32) (t : List aV) (lo : aL), ¬ y = 0 → aH F pc lo (.inl y :: .inl x :: t) pc' (.inl (g x y) :: t)) : aS sc cI F pc (j_div pc' g) := aS_n fun lo st M r e => by
  unfold j_div at e
  split at e
  · split at e
    · cases e
    · rename_i hne
      cases e
      exact ⟨_, _, _, _, rfl, aN_st (fun _ q _ => vok_c vok_i (vok_t (vok_t q))) (h _ _ _ lo hne)⟩
  · cases e
theorem S_un {sc : aSc} {cI : Nat → aF} {F : aF} {pc pc' : Nat} {g : Int32 → Int32} (h : ∀ (x : Int32) (t : List aV) (lo : aL), aH F pc lo (.inl x :: t) pc' (.inl (g x) :: t)) : aS sc cI F pc (j_un pc' g) := aS_n fun lo st M r e => by
  unfold j_un at e
  split at e
  · cases e
    exact ⟨_, _, _, _, rfl, aN_st (fun _ q _ => vok_c vok_i (vok_t q)) (h _ _ lo)⟩
  · cases e
theorem S_iadd {sc : aSc} {cI : Nat → aF} {F : aF} {pc : Nat} (hd : decode F.2.1 pc = .ok (.iadd, 1)) : aS sc cI F pc (j_bin (pc + 1) (fun x y => x + y)) := S_bin fun x y t lo p l e R s m args below meth c H locs cells slots Q ls ad C hl k => lv_iadd C.1 C.2.1 hd k
theorem S_isub {sc : aSc} {cI : Nat → aF} {F : aF} {pc : Nat} (hd : decode F.2.1 pc = .ok (.isub, 1)) : aS sc cI F pc (j_bin (pc + 1) (fun x y => x - y)) := S_bin fun x y t lo p l e R s m args below meth c H locs cells slots Q ls ad C hl k => lv_isub C.1 C.2.1 hd k
theorem S_imul {sc : aSc} {cI : Nat → aF} {F : aF} {pc : Nat} (hd : decode F.2.1 pc = .ok (.imul, 1)) : aS sc cI F pc (j_bin (pc + 1) (fun x y => x * y)) := S_bin fun x y t lo p l e R s m args below meth c H locs cells slots Q ls ad C hl k => lv_imul C.1 C.2.1 hd k
theorem S_iand {sc : aSc} {cI : Nat → aF} {F : aF} {pc : Nat} (hd : decode F.2.1 pc = .ok (.iand, 1)) : aS sc cI F pc (j_bin (pc + 1) (fun x y => x &&& y)) := S_bin fun x y t lo p l e R s m args below meth c H locs cells slots Q ls ad C hl k => lv_iand C.1 C.2.1 hd k
theorem S_ior {sc : aSc} {cI : Nat → aF} {F : aF} {pc : Nat} (hd : decode F.2.1 pc = .ok (.ior, 1)) : aS sc cI F pc (j_bin (pc + 1) (fun x y => x ||| y)) := S_bin fun x y t lo p l e R s m args below meth c H locs cells slots Q ls ad C hl k => lv_ior C.1 C.2.1 hd k
theorem S_ixor {sc : aSc} {cI : Nat → aF} {F : aF} {pc : Nat} (hd : decode F.2.1 pc = .ok (.ixor, 1)) : aS sc cI F pc (j_bin (pc + 1) (fun x y => x ^^^ y)) := S_bin fun x y t lo p l e R s m args below meth c H locs cells slots Q ls ad C hl k => lv_ixor C.1 C.2.1 hd k
theorem S_ishl {sc : aSc} {cI : Nat → aF} {F : aF} {pc : Nat} (hd : decode F.2.1 pc = .ok (.ishl, 1)) : aS sc cI F pc (j_bin (pc + 1) (fun x y => x <<< (y &&& 31))) := S_bin fun x y t lo p l e R s m args below meth c H locs cells slots Q ls ad C hl k => lv_ishl C.1 C.2.1 hd k
theorem S_ishr {sc : aSc} {cI : Nat → aF} {F : aF} {pc : Nat} (hd : decode F.2.1 pc = .ok (.ishr, 1)) : aS sc cI F pc (j_bin (pc + 1) (fun x y => x >>> (y &&& 31))) := S_bin fun x y t lo p l e R s m args below meth c H locs cells slots Q ls ad C hl k => lv_ishr C.1 C.2.1 hd k
theorem S_iushr {sc : aSc} {cI : Nat → aF} {F : aF} {pc : Nat} (hd : decode F.2.1 pc = .ok (.iushr, 1)) : aS sc cI F pc (j_bin (pc + 1) (fun x y => (x.toUInt32 >>> (y.toUInt32 &&& Int32.toUInt32 31)).toInt32)) := S_bin fun x y t lo p l e R s m args below meth c H locs cells slots Q ls ad C hl k => lv_iushr C.1 C.2.1 hd rfl k
theorem S_idiv {sc : aSc} {cI : Nat → aF} {F : aF} {pc : Nat} (hd : decode F.2.1 pc = .ok (.idiv, 1)) : aS sc cI F pc (j_div (pc + 1) (fun x y => x / y)) := S_div fun x y t lo hne p l e R s m args below meth c H locs cells slots Q ls ad C hl k => lv_idiv C.1 C.2.1 hd hne k
theorem S_irem {sc : aSc} {cI : Nat → aF} {F : aF} {pc : Nat} (hd : decode F.2.1 pc = .ok (.irem, 1)) : aS sc cI F pc (j_div (pc + 1) (fun x y => x - x / y * y)) := S_div fun x y t lo hne p l e R s m args below meth c H locs cells slots Q ls ad C hl k => lv_irem C.1 C.2.1 hd hne k
theorem S_ineg {sc : aSc} {cI : Nat → aF} {F : aF} {pc : Nat} (hd : decode F.2.1 pc = .ok (.ineg, 1)) : aS sc cI F pc (j_un (pc + 1) (fun x => -x)) := S_un fun x t lo p l e R s m args below meth c H locs cells slots Q ls ad C hl k => lv_ineg C.1 C.2.1 hd k
theorem S_i2b {sc : aSc} {cI : Nat → aF} {F : aF} {pc : Nat} (hd : decode F.2.1 pc = .ok (.i2b, 1)) : aS sc cI F pc (j_un (pc + 1) (fun x => x.toInt8.toInt32)) := S_un fun x t lo p l e R s m args below meth c H locs cells slots Q ls ad C hl k => lv_i2b C.1 C.2.1 hd rfl k
theorem S_i2c {sc : aSc} {cI : Nat → aF} {F : aF} {pc : Nat} (hd : decode F.2.1 pc = .ok (.i2c, 1)) : aS sc cI F pc (j_un (pc + 1) (fun x => (x.toUInt32 % 65536).toInt32)) := S_un fun x t lo p l e R s m args below meth c H locs cells slots Q ls ad C hl k => lv_i2c C.1 C.2.1 hd rfl k
-- longs
def j_i2l (pc' : Nat) : aI := fun lo st M => match st with
  | .inl x :: t => some (.inl (pc', lo, .inr (.inl x.toInt64) :: t, M))
  | _ => none
theorem S_i2l {sc : aSc} {cI : Nat → aF} {F : aF} {pc : Nat} (hd : decode F.2.1 pc = .ok (.i2l, 1)) : aS sc cI F pc (j_i2l (pc + 1)) := aS_n fun lo st M r e => by
  unfold j_i2l at e
  split at e
  · cases e
    exact ⟨_, _, _, _, rfl, aN_st (fun _ q _ => vok_c vok_j (vok_t q)) (fun p l e R s m args below meth c H locs cells slots Q ls ad C hl k => lv_i2l C.1 C.2.1 hd rfl k)⟩
  · cases e
def j_lbin (pc' : Nat) (g : Int64 → Int64 → Int64) : aI := fun lo st M => match st with
  | .inr (.inl y) :: .inr (.inl x) :: t => some (.inl (pc', lo, .inr (.inl (g x y)) :: t, M))
  | _ => none
theorem S_lbin {sc : aSc} {cI : Nat → aF} {F : aF} {pc pc' : Nat} {g : Int64 → Int64 → Int64} (h : ∀ (x y : Int64) (t : List aV) (lo : aL), aH F pc lo (.inr (.inl y) :: .inr (.inl x) :: t) pc' (.inr (.inl (g x y)) :: t)) : aS sc cI F pc (j_lbin pc' g) := aS_n fun lo st M r e => by
  unfold j_lbin at e
  split at e
  · cases e
    exact ⟨_, _, _, _, rfl, aN_st (fun _ q _ => vok_c vok_j (vok_t (vok_t q))) (h _ _ _ lo)⟩
  · cases e
theorem S_ladd {sc : aSc} {cI : Nat → aF} {F : aF} {pc : Nat} (hd : decode F.2.1 pc = .ok (.ladd, 1)) : aS sc cI F pc (j_lbin (pc + 1) (fun x y => x + y)) := S_lbin fun x y t lo p l e R s m args below meth c H locs cells slots Q ls ad C hl k => lv_ladd C.1 C.2.1 hd k
theorem S_lmul {sc : aSc} {cI : Nat → aF} {F : aF} {pc : Nat} (hd : decode F.2.1 pc = .ok (.lmul, 1)) : aS sc cI F pc (j_lbin (pc + 1) (fun x y => x * y)) := S_lbin fun x y t lo p l e R s m args below meth c H locs cells slots Q ls ad C hl k => lv_lmul C.1 C.2.1 hd k
def j_lcmp (pc' : Nat) : aI := fun lo st M => match st with
  | .inr (.inl y) :: .inr (.inl x) :: t => some (.inl (pc', lo, .inl (lg_cmp x y) :: t, M))
  | _ => none
theorem S_lcmp {sc : aSc} {cI : Nat → aF} {F : aF} {pc : Nat} (hd : decode F.2.1 pc = .ok (.lcmp, 1)) : aS sc cI F pc (j_lcmp (pc + 1)) := aS_n fun lo st M r e => by
  unfold j_lcmp at e
  split at e
  · cases e
    exact ⟨_, _, _, _, rfl, aN_st (fun _ q _ => vok_c vok_i (vok_t (vok_t q))) (fun p l e R s m args below meth c H locs cells slots Q ls ad C hl k => W.lcmp C.1 C.2.1 hd k)⟩
  · cases e
def j_cl (pc' : Nat) (x : Int64) : aI := fun lo st M => some (.inl (pc', lo, .inr (.inl x) :: st, M))
theorem S_lconst {sc : aSc} {cI : Nat → aF} {F : aF} {pc : Nat} {n : Fin 2} {x : Int64} (hv : Int64.ofNat (n : Nat) = x) (hd : decode F.2.1 pc = .ok (.lconst n, 1)) : aS sc cI F pc (j_cl (pc + 1) x) := aS_n fun lo st M r e => by
  cases e
  exact ⟨_, _, _, _, rfl, aN_st (fun _ h _ => vok_c vok_j h) (fun p l e R s m args below meth c H locs cells slots Q ls ad C hl k => lv_lconst C.1 C.2.1 hd hv k)⟩
theorem S_ldc2 {sc : aSc} {cI : Nat → aF} {F : aF} {pc : Nat} {i : Nat} {x : Int64} (hw : Cond.constantLong F.1.cls i x ∈ TB) (hd : decode F.2.1 pc = .ok (.ldc2_w i, 3)) : aS sc cI F pc (j_cl (pc + 3) x) := aS_n fun lo st M r e => by
  cases e
  exact ⟨_, _, _, _, rfl, aN_st (fun _ h _ => vok_c vok_j h) (fun p l e R s m args below meth c H locs cells slots Q ls ad C hl k => lv_ldc2 C.1 C.2.1 C.2.2.2.1 (C.2.2.2.2 _ hw) hd k)⟩
theorem S_ldc {sc : aSc} {cI : Nat → aF} {F : aF} {pc : Nat} {i : Nat} {x : Int32} (hw : Cond.constant F.1.cls i x ∈ TB) (hd : decode F.2.1 pc = .ok (.ldc i, 2)) : aS sc cI F pc (j_c (pc + 2) x) := aS_n fun lo st M r e => by
  cases e
  exact ⟨_, _, _, _, rfl, aN_st (fun _ h _ => vok_c vok_i h) (fun p l e R s m args below meth c H locs cells slots Q ls ad C hl k => lv_ldc C.1 C.2.1 C.2.2.2.1 (C.2.2.2.2 _ hw) hd k)⟩
def j_lload (pc' i : Nat) : aI := fun lo st M => match lk i lo with
  | some (.inr (.inl x)) => some (.inl (pc', lo, .inr (.inl x) :: st, M))
  | _ => none
theorem S_lload_n {sc : aSc} {cI : Nat → aF} {F : aF} {pc i : Nat} {k : Fin 4} (hi : (k : Nat) = i) (hd : decode F.2.1 pc = .ok (.lload_n k, 1)) : aS sc cI F pc (j_lload (pc + 1) i) := aS_n fun lo st M r e => by
  unfold j_lload at e
  split at e
  · rename_i x hx
    cases e
    exact ⟨_, _, _, _, rfl, aN_st (fun _ h _ => vok_c vok_j h) (fun p l e R s m args below meth c H locs cells slots Q ls ad C hl k => lv_lload_n C.1 C.2.1 hd hi (lk_at hx hl) k)⟩
  · cases e
-- dup, pop
def j_dup (pc' : Nat) : aI := fun lo st M => match st with
  | v :: t => bif isL v then none else some (.inl (pc', lo, v :: v :: t, M))
  | _ => none
theorem cat1 {ad : Nat → Nat} {v : aV} (h : isL v = false) : (tv ad v).category = 1 := by rw [tv_cat, cat, h]; rfl
theorem S_dup {sc : aSc} {cI : Nat → aF} {F : aF} {pc : Nat} (hd : decode F.2.1 pc = .ok (.dup, 1)) : aS sc cI F pc (j_dup (pc + 1)) := aS_n fun lo st M r e => by
  unfold j_dup at e
  split at e
  · rename_i v t
    cases hv : isL v with
    | true => rw [hv] at e; cases e
    | false =>
      rw [hv] at e
      cases e
      exact ⟨_, _, _, _, rfl, aN_st (fun _ h _ => vok_c (h v List.mem_cons_self) h) (fun p l e R s m args below meth c H locs cells slots Q ls ad C hl k => lv_dup C.1 C.2.1 hd (cat1 hv) k)⟩
  · cases e
def j_pop (pc' : Nat) : aI := fun lo st M => match st with
  | v :: t => bif isL v then none else some (.inl (pc', lo, t, M))
  | _ => none
theorem S_pop {sc : aSc} {cI : Nat → aF} {F : aF} {pc : Nat} (hd : decode F.2.1 pc = .ok (.pop, 1)) : aS sc cI F pc (j_pop (pc + 1)) := aS_n fun lo st M r e => by
  unfold j_pop at e
  split at e
  · rename_i v t
    cases hv : isL v with
    | true => rw [hv] at e; cases e
    | false =>
      rw [hv] at e
      cases e
      exact ⟨_, _, _, _, rfl, aN_st (fun _ h _ => vok_t h) (fun p l e R s m args below meth c H locs cells slots Q ls ad C hl k => lv_pop C.1 C.2.1 hd (cat1 hv) k)⟩
  · cases e
def j_dup2 (pc' : Nat) : aI := fun lo st M => match st with
  | v :: w :: t => bif isL v || isL w then none else some (.inl (pc', lo, v :: w :: v :: w :: t, M))
  | _ => none
theorem S_dup2 {sc : aSc} {cI : Nat → aF} {F : aF} {pc : Nat} (hd : decode F.2.1 pc = .ok (.dup2, 1)) : aS sc cI F pc (j_dup2 (pc + 1)) := aS_n fun lo st M r e => by
  unfold j_dup2 at e
  split at e
  · rename_i v w t
    cases hv : isL v with
    | true => rw [hv] at e; cases e
    | false =>
      cases hw : isL w with
      | true => rw [hv, hw] at e; cases e
      | false =>
        rw [hv, hw] at e
        cases e
        exact ⟨_, _, _, _, rfl, aN_st (fun _ h _ => vok_c (h v List.mem_cons_self) (vok_c (h w (List.mem_cons_of_mem _ List.mem_cons_self)) h)) (fun p l e R s m args below meth c H locs cells slots Q ls ad C hl k => lv_dup2_11 C.1 C.2.1 hd (cat1 hv) (cat1 hw) k)⟩
  · cases e
-- branches
def j_goto (t : Nat) : aI := fun lo st M => some (.inl (t, lo, st, M))
theorem S_goto {sc : aSc} {cI : Nat → aF} {F : aF} {pc t : Nat} {off : Int} (ht : (pc : Int) + off = (t : Int)) (hd : decode F.2.1 pc = .ok (.goto off, 3)) : aS sc cI F pc (j_goto t) := aS_n fun lo st M r e => by
  cases e
  exact ⟨_, _, _, _, rfl, aN_st (fun _ h _ => h) (fun p l e R s m args below meth c H locs cells slots Q ls ad C hl k => lv_goto C.1 C.2.1 hd ht k)⟩
def j_if (g : Int32 → Bool) (t f : Nat) : aI := fun lo st M => match st with
  | .inl x :: s => some (.inl (bif g x then t else f, lo, s, M))
  | _ => none
def j_ifc (g : Int32 → Int32 → Bool) (t f : Nat) : aI := fun lo st M => match st with
  | .inl y :: .inl x :: s => some (.inl (bif g x y then t else f, lo, s, M))
  | _ => none
theorem S_if {sc : aSc} {cI : Nat → aF} {F : aF} {pc t f : Nat} {g : Int32 → Bool} (h1 : ∀ (x : Int32) (s : List aV) (lo : aL), g x = true → aH F pc lo (.inl x :: s) t s) (h2 : ∀ (x : Int32) (s : List aV) (lo : aL), g x = false → aH F pc lo (.inl x :: s) f s) : aS sc cI F pc (j_if g t f) := aS_n fun lo st M r e => by
  unfold j_if at e
  split at e
  · rename_i x s
    cases e
    cases hg : g x with
    | true => exact ⟨_, _, _, _, rfl, aN_st (fun _ h _ => vok_t h) (h1 x s lo hg)⟩
    | false => exact ⟨_, _, _, _, rfl, aN_st (fun _ h _ => vok_t h) (h2 x s lo hg)⟩
  · cases e
theorem S_ifc {sc : aSc} {cI : Nat → aF} {F : aF} {pc t f : Nat} {g : Int32 → Int32 → Bool} (h1 : ∀ (x y : Int32) (s : List aV) (lo : aL), g x y = true → aH F pc lo (.inl y :: .inl x :: s) t s) (h2 : ∀ (x y : Int32) (s : List aV) (lo : aL), g x y = false → aH F pc lo (.inl y :: .inl x :: s) f s) : aS sc cI F pc (j_ifc g t f) := aS_n fun lo st M r e => by
  unfold j_ifc at e
  split at e
  · rename_i y x s
    cases e
    cases hg : g x y with
    | true => exact ⟨_, _, _, _, rfl, aN_st (fun _ h _ => vok_t (vok_t h)) (h1 x y s lo hg)⟩
    | false => exact ⟨_, _, _, _, rfl, aN_st (fun _ h _ => vok_t (vok_t h)) (h2 x y s lo hg)⟩
  · cases e
theorem S_ifeq {sc : aSc} {cI : Nat → aF} {F : aF} {pc t : Nat} {off : Int} (ht : (pc : Int) + off = (t : Int)) (hd : decode F.2.1 pc = .ok (.ifCond .eq off, 3)) : aS sc cI F pc (j_if (fun x => decide (x = 0)) t (pc + 3)) :=
  S_if (fun x s lo hg p l e R s9 m args below meth c H locs cells slots Q ls ad C hl k => lv_if_eq C.1 C.2.1 hd ht (fun _ => k) (fun q => absurd (of_decide_eq_true hg) q))
    (fun x s lo hg p l e R s9 m args below meth c H locs cells slots Q ls ad C hl k => lv_if_eq C.1 C.2.1 hd ht (fun q => absurd q (of_decide_eq_false hg)) (fun _ => k))
theorem S_iceq {sc : aSc} {cI : Nat → aF} {F : aF} {pc t : Nat} {off : Int} (ht : (pc : Int) + off = (t : Int)) (hd : decode F.2.1 pc = .ok (.if_icmp .eq off, 3)) : aS sc cI F pc (j_ifc (fun x y => decide (x = y)) t (pc + 3)) :=
  S_ifc (fun x y s lo hg p l e R s9 m args below meth c H locs cells slots Q ls ad C hl k => lv_icmp_eq C.1 C.2.1 hd ht (fun _ => k) (fun q => absurd (of_decide_eq_true hg) q))
    (fun x y s lo hg p l e R s9 m args below meth c H locs cells slots Q ls ad C hl k => lv_icmp_eq C.1 C.2.1 hd ht (fun q => absurd q (of_decide_eq_false hg)) (fun _ => k))
theorem S_ifne {sc : aSc} {cI : Nat → aF} {F : aF} {pc t : Nat} {off : Int} (ht : (pc : Int) + off = (t : Int)) (hd : decode F.2.1 pc = .ok (.ifCond .ne off, 3)) : aS sc cI F pc (j_if (fun x => decide (¬ x = 0)) t (pc + 3)) :=
  S_if (fun x s lo hg p l e R s9 m args below meth c H locs cells slots Q ls ad C hl k => lv_if_ne C.1 C.2.1 hd ht (fun _ => k) (fun q => absurd q (of_decide_eq_true hg)))
    (fun x s lo hg p l e R s9 m args below meth c H locs cells slots Q ls ad C hl k => lv_if_ne C.1 C.2.1 hd ht (fun q => absurd q (of_decide_eq_false hg)) (fun _ => k))
theorem S_icne {sc : aSc} {cI : Nat → aF} {F : aF} {pc t : Nat} {off : Int} (ht : (pc : Int) + off = (t : Int)) (hd : decode F.2.1 pc = .ok (.if_icmp .ne off, 3)) : aS sc cI F pc (j_ifc (fun x y => decide (¬ x = y)) t (pc + 3)) :=
  S_ifc (fun x y s lo hg p l e R s9 m args below meth c H locs cells slots Q ls ad C hl k => lv_icmp_ne C.1 C.2.1 hd ht (fun _ => k) (fun q => absurd q (of_decide_eq_true hg)))
    (fun x y s lo hg p l e R s9 m args below meth c H locs cells slots Q ls ad C hl k => lv_icmp_ne C.1 C.2.1 hd ht (fun q => absurd q (of_decide_eq_false hg)) (fun _ => k))
theorem S_iflt {sc : aSc} {cI : Nat → aF} {F : aF} {pc t : Nat} {off : Int} (ht : (pc : Int) + off = (t : Int)) (hd : decode F.2.1 pc = .ok (.ifCond .lt off, 3)) : aS sc cI F pc (j_if (fun x => decide (x < 0)) t (pc + 3)) :=
  S_if (fun x s lo hg p l e R s9 m args below meth c H locs cells slots Q ls ad C hl k => lv_if_lt C.1 C.2.1 hd ht (fun _ => k) (fun q => absurd (of_decide_eq_true hg) q))
    (fun x s lo hg p l e R s9 m args below meth c H locs cells slots Q ls ad C hl k => lv_if_lt C.1 C.2.1 hd ht (fun q => absurd q (of_decide_eq_false hg)) (fun _ => k))
theorem S_iclt {sc : aSc} {cI : Nat → aF} {F : aF} {pc t : Nat} {off : Int} (ht : (pc : Int) + off = (t : Int)) (hd : decode F.2.1 pc = .ok (.if_icmp .lt off, 3)) : aS sc cI F pc (j_ifc (fun x y => decide (x < y)) t (pc + 3)) :=
  S_ifc (fun x y s lo hg p l e R s9 m args below meth c H locs cells slots Q ls ad C hl k => lv_icmp_lt C.1 C.2.1 hd ht (fun _ => k) (fun q => absurd (of_decide_eq_true hg) q))
    (fun x y s lo hg p l e R s9 m args below meth c H locs cells slots Q ls ad C hl k => lv_icmp_lt C.1 C.2.1 hd ht (fun q => absurd q (of_decide_eq_false hg)) (fun _ => k))
theorem S_ifge {sc : aSc} {cI : Nat → aF} {F : aF} {pc t : Nat} {off : Int} (ht : (pc : Int) + off = (t : Int)) (hd : decode F.2.1 pc = .ok (.ifCond .ge off, 3)) : aS sc cI F pc (j_if (fun x => decide (0 ≤ x)) t (pc + 3)) :=
  S_if (fun x s lo hg p l e R s9 m args below meth c H locs cells slots Q ls ad C hl k => lv_if_ge C.1 C.2.1 hd ht (fun _ => k) (fun q => absurd (of_decide_eq_true hg) q))
    (fun x s lo hg p l e R s9 m args below meth c H locs cells slots Q ls ad C hl k => lv_if_ge C.1 C.2.1 hd ht (fun q => absurd q (of_decide_eq_false hg)) (fun _ => k))
theorem S_icge {sc : aSc} {cI : Nat → aF} {F : aF} {pc t : Nat} {off : Int} (ht : (pc : Int) + off = (t : Int)) (hd : decode F.2.1 pc = .ok (.if_icmp .ge off, 3)) : aS sc cI F pc (j_ifc (fun x y => decide (y ≤ x)) t (pc + 3)) :=
  S_ifc (fun x y s lo hg p l e R s9 m args below meth c H locs cells slots Q ls ad C hl k => lv_icmp_ge C.1 C.2.1 hd ht (fun _ => k) (fun q => absurd (of_decide_eq_true hg) q))
    (fun x y s lo hg p l e R s9 m args below meth c H locs cells slots Q ls ad C hl k => lv_icmp_ge C.1 C.2.1 hd ht (fun q => absurd q (of_decide_eq_false hg)) (fun _ => k))
theorem S_ifgt {sc : aSc} {cI : Nat → aF} {F : aF} {pc t : Nat} {off : Int} (ht : (pc : Int) + off = (t : Int)) (hd : decode F.2.1 pc = .ok (.ifCond .gt off, 3)) : aS sc cI F pc (j_if (fun x => decide (0 < x)) t (pc + 3)) :=
  S_if (fun x s lo hg p l e R s9 m args below meth c H locs cells slots Q ls ad C hl k => lv_if_gt C.1 C.2.1 hd ht (fun _ => k) (fun q => absurd (of_decide_eq_true hg) q))
    (fun x s lo hg p l e R s9 m args below meth c H locs cells slots Q ls ad C hl k => lv_if_gt C.1 C.2.1 hd ht (fun q => absurd q (of_decide_eq_false hg)) (fun _ => k))
theorem S_icgt {sc : aSc} {cI : Nat → aF} {F : aF} {pc t : Nat} {off : Int} (ht : (pc : Int) + off = (t : Int)) (hd : decode F.2.1 pc = .ok (.if_icmp .gt off, 3)) : aS sc cI F pc (j_ifc (fun x y => decide (y < x)) t (pc + 3)) :=
  S_ifc (fun x y s lo hg p l e R s9 m args below meth c H locs cells slots Q ls ad C hl k => lv_icmp_gt C.1 C.2.1 hd ht (fun _ => k) (fun q => absurd (of_decide_eq_true hg) q))
    (fun x y s lo hg p l e R s9 m args below meth c H locs cells slots Q ls ad C hl k => lv_icmp_gt C.1 C.2.1 hd ht (fun q => absurd q (of_decide_eq_false hg)) (fun _ => k))
theorem S_ifle {sc : aSc} {cI : Nat → aF} {F : aF} {pc t : Nat} {off : Int} (ht : (pc : Int) + off = (t : Int)) (hd : decode F.2.1 pc = .ok (.ifCond .le off, 3)) : aS sc cI F pc (j_if (fun x => decide (x ≤ 0)) t (pc + 3)) :=
  S_if (fun x s lo hg p l e R s9 m args below meth c H locs cells slots Q ls ad C hl k => lv_if_le C.1 C.2.1 hd ht (fun _ => k) (fun q => absurd (of_decide_eq_true hg) q))
    (fun x s lo hg p l e R s9 m args below meth c H locs cells slots Q ls ad C hl k => lv_if_le C.1 C.2.1 hd ht (fun q => absurd q (of_decide_eq_false hg)) (fun _ => k))
theorem S_icle {sc : aSc} {cI : Nat → aF} {F : aF} {pc t : Nat} {off : Int} (ht : (pc : Int) + off = (t : Int)) (hd : decode F.2.1 pc = .ok (.if_icmp .le off, 3)) : aS sc cI F pc (j_ifc (fun x y => decide (x ≤ y)) t (pc + 3)) :=
  S_ifc (fun x y s lo hg p l e R s9 m args below meth c H locs cells slots Q ls ad C hl k => lv_icmp_le C.1 C.2.1 hd ht (fun _ => k) (fun q => absurd (of_decide_eq_true hg) q))
    (fun x y s lo hg p l e R s9 m args below meth c H locs cells slots Q ls ad C hl k => lv_icmp_le C.1 C.2.1 hd ht (fun q => absurd q (of_decide_eq_false hg)) (fun _ => k))

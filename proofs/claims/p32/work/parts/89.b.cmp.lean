/-! Comparisons by numbers. -/
theorem nv_As {T : nv_T} {τ : Nat → Nat} {M : aM} {a k : Nat} {v : Int32} (h : nv_A T τ M) : nv_A T τ (s_I M a k v) := h
theorem nv_AJ {T : nv_T} {τ : Nat → Nat} {M : aM} {a k : Nat} {v : Int64} (h : nv_A T τ M) : nv_A T τ (s_J M a k v) := h
theorem aI_sI {M : aM} {a k b j : Nat} {v : Int32} : a_I (s_I M a k v) b j = if b = a ∧ j = k then v else a_I M b j := up2_eq
theorem aI_sJ {M : aM} {a k b j : Nat} {v : Int64} : a_I (s_J M a k v) b j = a_I M b j := rfl
theorem aJ_sI {M : aM} {a k b j : Nat} {v : Int32} : a_J (s_I M a k v) b j = a_J M b j := rfl
theorem aJ_sJ {M : aM} {a k b j : Nat} {v : Int64} : a_J (s_J M a k v) b j = if b = a ∧ j = k then v else a_J M b j := up2_eq
theorem ccT0 {x y : Int32} {a b : Int} (hx : x.toInt = a) (hy : y.toInt = b) (h : a < b) : cmpf 0 x y = true := decide_eq_true (Int32.lt_iff_toInt_lt.mpr (by rw [hx, hy]; exact h))
theorem ccF0 {x y : Int32} {a b : Int} (hx : x.toInt = a) (hy : y.toInt = b) (h : b ≤ a) : cmpf 0 x y = false := decide_eq_false (fun q => by have := Int32.lt_iff_toInt_lt.mp q; rw [hx, hy] at this; omega)
theorem ccT1 {x y : Int32} {a b : Int} (hx : x.toInt = a) (hy : y.toInt = b) (h : a = b) : cmpf 1 x y = true := decide_eq_true (Int32.toInt_inj.mp (by rw [hx, hy]; exact h))
theorem ccF1 {x y : Int32} {a b : Int} (hx : x.toInt = a) (hy : y.toInt = b) (h : a ≠ b) : cmpf 1 x y = false := decide_eq_false (fun q => h (by rw [← hx, ← hy, q]))
theorem ccT2 {x y : Int32} {a b : Int} (hx : x.toInt = a) (hy : y.toInt = b) (h : a ≤ b) : cmpf 2 x y = true := decide_eq_true (Int32.le_iff_toInt_le.mpr (by rw [hx, hy]; exact h))
theorem ccF2 {x y : Int32} {a b : Int} (hx : x.toInt = a) (hy : y.toInt = b) (h : b < a) : cmpf 2 x y = false := decide_eq_false (fun q => by have := Int32.le_iff_toInt_le.mp q; rw [hx, hy] at this; omega)
theorem ccT3 {x y : Int32} {a b : Int} (hx : x.toInt = a) (hy : y.toInt = b) (h : b < a) : cmpf 3 x y = true := ccT0 hy hx h
theorem ccF3 {x y : Int32} {a b : Int} (hx : x.toInt = a) (hy : y.toInt = b) (h : a ≤ b) : cmpf 3 x y = false := ccF0 hy hx h
theorem ccT4 {x y : Int32} {a b : Int} (hx : x.toInt = a) (hy : y.toInt = b) (h : b ≤ a) : cmpf 4 x y = true := ccT2 hy hx h
theorem ccF4 {x y : Int32} {a b : Int} (hx : x.toInt = a) (hy : y.toInt = b) (h : a < b) : cmpf 4 x y = false := ccF2 hy hx h
theorem ccT5 {x y : Int32} {a b : Int} (hx : x.toInt = a) (hy : y.toInt = b) (h : a ≠ b) : cmpf 5 x y = true := decide_eq_true (fun q => h (by rw [← hx, ← hy, q]))
theorem ccF5 {x y : Int32} {a b : Int} (hx : x.toInt = a) (hy : y.toInt = b) (h : a = b) : cmpf 5 x y = false := decide_eq_false (fun q => q (Int32.toInt_inj.mp (by rw [hx, hy]; exact h)))
theorem zcT0 {x : Int32} {a : Int} (hx : x.toInt = a) (h : a < 0) : cmp0 0 x = true := by rw [cmp0_eq]; exact ccT0 hx rfl h
theorem zcF0 {x : Int32} {a : Int} (hx : x.toInt = a) (h : 0 ≤ a) : cmp0 0 x = false := by rw [cmp0_eq]; exact ccF0 hx rfl h
theorem zcT1 {x : Int32} {a : Int} (hx : x.toInt = a) (h : a = 0) : cmp0 1 x = true := by rw [cmp0_eq]; exact ccT1 hx rfl h
theorem zcF1 {x : Int32} {a : Int} (hx : x.toInt = a) (h : a ≠ 0) : cmp0 1 x = false := by rw [cmp0_eq]; exact ccF1 hx rfl h
theorem zcT2 {x : Int32} {a : Int} (hx : x.toInt = a) (h : a ≤ 0) : cmp0 2 x = true := by rw [cmp0_eq]; exact ccT2 hx rfl h
theorem zcF2 {x : Int32} {a : Int} (hx : x.toInt = a) (h : 0 < a) : cmp0 2 x = false := by rw [cmp0_eq]; exact ccF2 hx rfl h
theorem zcT3 {x : Int32} {a : Int} (hx : x.toInt = a) (h : 0 < a) : cmp0 3 x = true := by rw [cmp0_eq]; exact ccT3 hx rfl h
theorem zcF3 {x : Int32} {a : Int} (hx : x.toInt = a) (h : a ≤ 0) : cmp0 3 x = false := by rw [cmp0_eq]; exact ccF3 hx rfl h
theorem zcT4 {x : Int32} {a : Int} (hx : x.toInt = a) (h : 0 ≤ a) : cmp0 4 x = true := by rw [cmp0_eq]; exact ccT4 hx rfl h
theorem zcF4 {x : Int32} {a : Int} (hx : x.toInt = a) (h : a < 0) : cmp0 4 x = false := by rw [cmp0_eq]; exact ccF4 hx rfl h
theorem zcT5 {x : Int32} {a : Int} (hx : x.toInt = a) (h : a ≠ 0) : cmp0 5 x = true := by rw [cmp0_eq]; exact ccT5 hx rfl h
theorem zcF5 {x : Int32} {a : Int} (hx : x.toInt = a) (h : a = 0) : cmp0 5 x = false := by rw [cmp0_eq]; exact ccF5 hx rfl h
theorem tnc {x : Int32} {p : Nat} (h : x.toInt = (p : Int)) : x.toNatClampNeg = p := by
  show x.toInt.toNat = p
  rw [h]
  exact Int.toNat_natCast p
theorem inb_p {x : Int32} {p n : Nat} (h : x.toInt = (p : Int)) (hp : p < n) : inb x n = true := inb_ok (by omega) (by omega)
theorem add_p {x : Int32} {p : Int} (h : x.toInt = p) (h1 : 0 ≤ p) (h2 : p ≤ 2000000000) : (x + 1).toInt = p + 1 := by
  rw [add_i]
  · rw [h]; rfl
  · rw [h]; show (-2147483648 : Int) ≤ p + 1; omega
  · rw [h]; show p + 1 ≤ (2147483647 : Int); omega

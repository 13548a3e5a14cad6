theorem and63 (x : Int32) : ∃ k : Nat, k < 64 ∧ x &&& 63 = Int32.ofNat k := by
  refine ⟨(x &&& 63).toBitVec.toNat, ?_, ?_⟩
  · rw [Int32.toBitVec_and, BitVec.toNat_and]
    exact Nat.lt_of_le_of_lt Nat.and_le_right (by decide)
  · apply Int32.toBitVec_inj.mp
    rw [Int32.toBitVec_ofNat', BitVec.ofNat_toNat]
    simp
theorem i32_z {x : Int32} (h : ¬ x < 0) : 0 ≤ x := by
  rw [Int32.lt_iff_toInt_lt] at h
  rw [Int32.le_iff_toInt_le]
  omega
theorem i32_0 {x : Int32} (h : ¬ x < 0) (g : x ≤ 0) : x = 0 := by
  rw [Int32.lt_iff_toInt_lt] at h
  rw [Int32.le_iff_toInt_le] at g
  apply Int32.toInt_inj.mp
  omega
theorem i32_5 {x : Int32} (h : x < 0) : x ≠ 5 := fun e => by rw [e] at h; exact absurd h (by decide)
theorem i32_g {x : Int32} (h : ¬ x ≤ 10) : x ≠ 5 ∧ 10 < x := by
  refine ⟨fun e => by rw [e] at h; exact absurd h (by decide), ?_⟩
  rw [Int32.le_iff_toInt_le] at h
  rw [Int32.lt_iff_toInt_lt]
  omega
theorem i32_l {x : Int32} (h : x ≤ 10) : ¬ 10 < x := by
  rw [Int32.le_iff_toInt_le] at h
  rw [Int32.lt_iff_toInt_lt]
  omega
theorem p1_all (xs : Nat → Int32) (v : Int32) (k : Nat) (hk : k < 64) (hv : v = Int32.ofNat k) : p1K xs v := by
  subst hv
  by_cases hb : 32 < k
  · refine p1_big xs _ ?_
    rw [Int32.toInt_ofNat_of_lt (by omega)]
    omega
  · match k, hb with
    | 0, _ => exact p1_op_0 xs
    | 1, _ =>
      by_cases h : xs 1 < 0
      · exact p1_op_1_n xs h
      · by_cases hp : xs 1 ≤ 0
        · exact p1_op_1_z xs (i32_0 h hp)
        · exact p1_op_1_p xs h hp
    | 2, _ => exact p1_op_2 xs
    | 3, _ => exact p1_op_3 xs
    | 4, _ =>
      by_cases h : xs 1 = 0
      · exact p1_op_4_z xs h
      · exact p1_op_4_n xs h
    | 5, _ => exact p1_op_5 xs
    | 6, _ => exact p1_op_6 xs
    | 7, _ =>
      by_cases h : xs 1 < 0
      · exact p1_op_7_n xs h (i32_5 h)
      · by_cases hl : xs 1 ≤ 10
        · by_cases h5 : xs 1 ≠ 5
          · exact p1_op_7_o xs h hl h5 (i32_l hl)
          · exact p1_op_7_5 xs h hl h5
        · exact p1_op_7_g xs h hl (i32_g hl).1 (i32_g hl).2
    | 8, _ => exact p1_op_8 xs
    | 9, _ => exact p1_op_9 xs
    | 10, _ => exact p1_op_10 xs
    | 11, _ =>
      by_cases h : xs 1 < 0
      · exact p1_op_11_n xs h
      · exact p1_op_11_p xs h (i32_z h)
    | 12, _ => exact p1_op_12 xs
    | 13, _ => exact p1_op_13 xs
    | 14, _ => exact p1_op_14 xs
    | 15, _ => exact p1_op_15 xs
    | 16, _ => exact p1_op_16 xs
    | 17, _ => exact p1_op_17 xs
    | 18, _ => exact p1_op_18 xs
    | 19, _ =>
      by_cases h : xs 2 = 0
      · exact p1_op_19_z xs h
      · exact p1_op_19_n xs h
    | 20, _ => exact p1_op_20 xs
    | 21, _ => exact p1_op_21 xs
    | 22, _ => exact p1_op_22 xs
    | 23, _ => exact p1_op_23 xs
    | 24, _ =>
      by_cases h : xs 1 < 0
      · exact p1_op_24_n xs h
      · exact p1_op_24_p xs h (i32_z h)
    | 25, _ => exact p1_op_25 xs
    | 26, _ => exact p1_op_26 xs
    | 27, _ => exact p1_op_27 xs
    | 28, _ => exact p1_op_28 xs
    | 29, _ =>
      by_cases h : xs 3 = 0
      · exact p1_op_29_z xs h
      · exact p1_op_29_n xs h
    | 30, _ => exact p1_op_30 xs
    | 31, _ => exact p1_op_31 xs
    | 32, _ => exact p1_op_32 xs
    | k + 33, hb => exact absurd (show 32 < k + 33 by omega) hb
theorem p1_run (L : Nat) (hL : L ≤ 6) (xs : Nat → Int32) : ∃ f M', exec (cd (L, xs)) f 40 246 0 (la 0 aScr) [] aM0 = some (some (.inl 1), M') ∧ a_c M' ≤ 600002 ∧ a_z M' ≤ 7302232 := by
  have h : wpS (cdL L xs) (40, [], 246, 0, la 0 aScr, [], aM0) Q1 := by
    by_cases h6 : L < 6
    · exact p1_small xs L h6
    · have : L = 6 := by omega
      subst this
      obtain ⟨k, hk, e⟩ := and63 (xs 0)
      exact p1_cut (p1_all xs _ k hk e)
  obtain ⟨f, r, M', h1, h2, h3, h4⟩ := h
  rw [← cdL_eq] at h1
  subst h2
  exact ⟨f, M', h1, h3, h4⟩

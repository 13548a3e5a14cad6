/-! the texts' rows, as the statement gives them: each by its place -/
def strB : List Nat := [25, 32, 42, 50, 58, 65, 72, 80, 89, 98, 106, 114, 121, 129, 137, 145, 156, 164, 172, 181, 187, 196, 202, 210, 218, 226, 234, 242, 253, 262, 271, 279, 287, 296, 306, 316, 325, 334, 342, 351, 360, 369, 381, 390, 399, 409, 416, 426, 433, 442, 451, 460]
theorem str_b {q : String × Nat × String × Nat} (h : q ∈ strT) : ∃ k, (q, k) ∈ strT.zip strB := by
  obtain ⟨i, hi, e⟩ := List.getElem_of_mem h
  have hl : i < strB.length := Nat.lt_of_lt_of_le hi (by decide +kernel)
  refine ⟨strB[i]'hl, List.mem_iff_getElem.mpr ⟨i, by rw [List.length_zip]; exact Nat.lt_min.mpr ⟨hi, hl⟩, ?_⟩⟩
  rw [List.getElem_zip, e]
set_option maxRecDepth 20000 in
theorem str_z : (strT.zip strB).all (fun z => (List.range z.1.2.2.1.length).all (fun j => decide ((flatC (Jvm.Cond.and given_1 narrow_1))[z.2 + 4 + j]? = some (Cond.eq (.elem (.field (.string z.1.1 z.1.2.1) "java/lang/String" "value" "[B") (.int (Int32.ofNat j))) (.int (sby z.1.2.2.1 j)))))) = true := by decide +kernel
set_option maxRecDepth 20000 in
theorem str_y : (strT.zip strB).all (fun z => decide ((flatC (Jvm.Cond.and given_1 narrow_1))[z.2]? = some (Cond.exactly (.string z.1.1 z.1.2.1) "java/lang/String")) && decide ((flatC (Jvm.Cond.and given_1 narrow_1))[z.2 + 1]? = some (Cond.eq (.field (.string z.1.1 z.1.2.1) "java/lang/String" "coder" "B") (.int 0))) && decide ((flatC (Jvm.Cond.and given_1 narrow_1))[z.2 + 2]? = some (Cond.arrayOf (.field (.string z.1.1 z.1.2.1) "java/lang/String" "value" "[B") .byte)) && decide ((flatC (Jvm.Cond.and given_1 narrow_1))[z.2 + 3]? = some (Cond.eq (.length (.field (.string z.1.1 z.1.2.1) "java/lang/String" "value" "[B")) (.int (Int32.ofNat z.1.2.2.1.length))))) = true := by decide +kernel
theorem str_e : ∀ q ∈ strT, ∀ j, j < q.2.2.1.length → Cond.eq (.elem (.field (.string q.1 q.2.1) "java/lang/String" "value" "[B") (.int (Int32.ofNat j))) (.int (sby q.2.2.1 j)) ∈ flatC (Jvm.Cond.and given_1 narrow_1) := fun q h j hj => by
  obtain ⟨k, hk⟩ := str_b h
  have g := List.all_eq_true.mp (List.all_eq_true.mp str_z _ hk) j (List.mem_range.mpr hj)
  exact List.mem_of_getElem? (of_decide_eq_true g)
theorem str_y4 {q : String × Nat × String × Nat} (h : q ∈ strT) : (Cond.exactly (.string q.1 q.2.1) "java/lang/String" ∈ flatC (Jvm.Cond.and given_1 narrow_1) ∧ Cond.eq (.field (.string q.1 q.2.1) "java/lang/String" "coder" "B") (.int 0) ∈ flatC (Jvm.Cond.and given_1 narrow_1)) ∧ Cond.arrayOf (.field (.string q.1 q.2.1) "java/lang/String" "value" "[B") .byte ∈ flatC (Jvm.Cond.and given_1 narrow_1) ∧ Cond.eq (.length (.field (.string q.1 q.2.1) "java/lang/String" "value" "[B")) (.int (Int32.ofNat q.2.2.1.length)) ∈ flatC (Jvm.Cond.and given_1 narrow_1) := by
  obtain ⟨k, hk⟩ := str_b h
  have g := List.all_eq_true.mp str_y _ hk
  obtain ⟨g, g4⟩ := (Bool.and_eq_true _ _).mp g
  obtain ⟨g, g3⟩ := (Bool.and_eq_true _ _).mp g
  obtain ⟨g1, g2⟩ := (Bool.and_eq_true _ _).mp g
  exact ⟨⟨List.mem_of_getElem? (of_decide_eq_true g1), List.mem_of_getElem? (of_decide_eq_true g2)⟩, List.mem_of_getElem? (of_decide_eq_true g3), List.mem_of_getElem? (of_decide_eq_true g4)⟩

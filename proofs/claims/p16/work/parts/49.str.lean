/-! the texts' bytes, as the statement gives them: a few texts at a time -/
set_option maxRecDepth 20000 in
theorem str_e_0 : ∀ q ∈ (strT.drop 0).take 4, ∀ j, j < q.2.2.1.length → Cond.eq (.elem (.field (.string q.1 q.2.1) "java/lang/String" "value" "[B") (.int (Int32.ofNat j))) (.int (sby q.2.2.1 j)) ∈ flatC (Jvm.Cond.and given_1 narrow_1) := by decide +kernel
set_option maxRecDepth 20000 in
theorem str_e_4 : ∀ q ∈ (strT.drop 4).take 4, ∀ j, j < q.2.2.1.length → Cond.eq (.elem (.field (.string q.1 q.2.1) "java/lang/String" "value" "[B") (.int (Int32.ofNat j))) (.int (sby q.2.2.1 j)) ∈ flatC (Jvm.Cond.and given_1 narrow_1) := by decide +kernel
set_option maxRecDepth 20000 in
theorem str_e_8 : ∀ q ∈ (strT.drop 8).take 4, ∀ j, j < q.2.2.1.length → Cond.eq (.elem (.field (.string q.1 q.2.1) "java/lang/String" "value" "[B") (.int (Int32.ofNat j))) (.int (sby q.2.2.1 j)) ∈ flatC (Jvm.Cond.and given_1 narrow_1) := by decide +kernel
set_option maxRecDepth 20000 in
theorem str_e_12 : ∀ q ∈ (strT.drop 12).take 4, ∀ j, j < q.2.2.1.length → Cond.eq (.elem (.field (.string q.1 q.2.1) "java/lang/String" "value" "[B") (.int (Int32.ofNat j))) (.int (sby q.2.2.1 j)) ∈ flatC (Jvm.Cond.and given_1 narrow_1) := by decide +kernel
set_option maxRecDepth 20000 in
theorem str_e_16 : ∀ q ∈ (strT.drop 16).take 4, ∀ j, j < q.2.2.1.length → Cond.eq (.elem (.field (.string q.1 q.2.1) "java/lang/String" "value" "[B") (.int (Int32.ofNat j))) (.int (sby q.2.2.1 j)) ∈ flatC (Jvm.Cond.and given_1 narrow_1) := by decide +kernel
set_option maxRecDepth 20000 in
theorem str_e_20 : ∀ q ∈ (strT.drop 20).take 4, ∀ j, j < q.2.2.1.length → Cond.eq (.elem (.field (.string q.1 q.2.1) "java/lang/String" "value" "[B") (.int (Int32.ofNat j))) (.int (sby q.2.2.1 j)) ∈ flatC (Jvm.Cond.and given_1 narrow_1) := by decide +kernel
set_option maxRecDepth 20000 in
theorem str_e_24 : ∀ q ∈ (strT.drop 24).take 4, ∀ j, j < q.2.2.1.length → Cond.eq (.elem (.field (.string q.1 q.2.1) "java/lang/String" "value" "[B") (.int (Int32.ofNat j))) (.int (sby q.2.2.1 j)) ∈ flatC (Jvm.Cond.and given_1 narrow_1) := by decide +kernel
set_option maxRecDepth 20000 in
theorem str_e_28 : ∀ q ∈ (strT.drop 28).take 4, ∀ j, j < q.2.2.1.length → Cond.eq (.elem (.field (.string q.1 q.2.1) "java/lang/String" "value" "[B") (.int (Int32.ofNat j))) (.int (sby q.2.2.1 j)) ∈ flatC (Jvm.Cond.and given_1 narrow_1) := by decide +kernel
set_option maxRecDepth 20000 in
theorem str_e_32 : ∀ q ∈ (strT.drop 32).take 4, ∀ j, j < q.2.2.1.length → Cond.eq (.elem (.field (.string q.1 q.2.1) "java/lang/String" "value" "[B") (.int (Int32.ofNat j))) (.int (sby q.2.2.1 j)) ∈ flatC (Jvm.Cond.and given_1 narrow_1) := by decide +kernel
set_option maxRecDepth 20000 in
theorem str_e_36 : ∀ q ∈ (strT.drop 36).take 4, ∀ j, j < q.2.2.1.length → Cond.eq (.elem (.field (.string q.1 q.2.1) "java/lang/String" "value" "[B") (.int (Int32.ofNat j))) (.int (sby q.2.2.1 j)) ∈ flatC (Jvm.Cond.and given_1 narrow_1) := by decide +kernel
set_option maxRecDepth 20000 in
theorem str_e_40 : ∀ q ∈ (strT.drop 40).take 4, ∀ j, j < q.2.2.1.length → Cond.eq (.elem (.field (.string q.1 q.2.1) "java/lang/String" "value" "[B") (.int (Int32.ofNat j))) (.int (sby q.2.2.1 j)) ∈ flatC (Jvm.Cond.and given_1 narrow_1) := by decide +kernel
set_option maxRecDepth 20000 in
theorem str_e_44 : ∀ q ∈ (strT.drop 44).take 4, ∀ j, j < q.2.2.1.length → Cond.eq (.elem (.field (.string q.1 q.2.1) "java/lang/String" "value" "[B") (.int (Int32.ofNat j))) (.int (sby q.2.2.1 j)) ∈ flatC (Jvm.Cond.and given_1 narrow_1) := by decide +kernel
set_option maxRecDepth 20000 in
theorem str_e_48 : ∀ q ∈ (strT.drop 48).take 4, ∀ j, j < q.2.2.1.length → Cond.eq (.elem (.field (.string q.1 q.2.1) "java/lang/String" "value" "[B") (.int (Int32.ofNat j))) (.int (sby q.2.2.1 j)) ∈ flatC (Jvm.Cond.and given_1 narrow_1) := by decide +kernel
theorem drop_ch {α : Type} {l : List α} {n k : Nat} {x : α} (h : x ∈ l.drop n) : x ∈ (l.drop n).take k ∨ x ∈ l.drop (n + k) := by
  rw [← List.take_append_drop k (l.drop n)] at h
  rcases List.mem_append.mp h with g | g
  · exact Or.inl g
  · rw [List.drop_drop] at g
    exact Or.inr g
theorem str_e : ∀ q ∈ strT, ∀ j, j < q.2.2.1.length → Cond.eq (.elem (.field (.string q.1 q.2.1) "java/lang/String" "value" "[B") (.int (Int32.ofNat j))) (.int (sby q.2.2.1 j)) ∈ flatC (Jvm.Cond.and given_1 narrow_1) := fun q h => by
  have h : q ∈ strT.drop 0 := h
  rcases drop_ch (k := 4) h with g | h
  · exact str_e_0 q g
  rcases drop_ch (k := 4) h with g | h
  · exact str_e_4 q g
  rcases drop_ch (k := 4) h with g | h
  · exact str_e_8 q g
  rcases drop_ch (k := 4) h with g | h
  · exact str_e_12 q g
  rcases drop_ch (k := 4) h with g | h
  · exact str_e_16 q g
  rcases drop_ch (k := 4) h with g | h
  · exact str_e_20 q g
  rcases drop_ch (k := 4) h with g | h
  · exact str_e_24 q g
  rcases drop_ch (k := 4) h with g | h
  · exact str_e_28 q g
  rcases drop_ch (k := 4) h with g | h
  · exact str_e_32 q g
  rcases drop_ch (k := 4) h with g | h
  · exact str_e_36 q g
  rcases drop_ch (k := 4) h with g | h
  · exact str_e_40 q g
  rcases drop_ch (k := 4) h with g | h
  · exact str_e_44 q g
  rcases drop_ch (k := 4) h with g | h
  · exact str_e_48 q g
  · cases h

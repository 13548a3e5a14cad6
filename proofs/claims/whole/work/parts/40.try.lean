def aM0 : aM := (0, 0, 0, fun _ => 0, fun _ => 0, fun _ _ => 0, fun _ _ => 0, fun _ _ => none)
/-- what a run tells: its answer, how many objects, cells, slots -/
def tel (x : Option (Option aV × aM)) : Option (Option aV × Nat × Nat × Nat) := x.map fun q => (q.1, a_n q.2, a_c q.2, a_z q.2)
theorem try1 : tel (exec (cd (0, fun _ => 0)) 3000 20 245 0 (la 0 [.inr (.inr (some aXS))]) [] aM0) = some (some (.inl 1), 82, 82, 5000) := by decide +kernel

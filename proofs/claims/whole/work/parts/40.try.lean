def aM0 : aM := (0, 0, 0, fun _ => 0, fun _ => 0, fun _ _ => 0, fun _ _ => 0, fun _ _ => none)
def tel (x : Option (Option aV × aM)) : Option (Option aV) := x.map fun q => q.1
set_option maxHeartbeats 4000000 in
set_option maxRecDepth 100000 in
theorem try4 (xs : Nat → Int32) : tel (exec (cd (0, xs)) 3000 20 244 0 (la 0 [.inr (.inr (some aXS))]) [] aM0) = some (some (.inl 1)) := by rfl

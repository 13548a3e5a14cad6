/-! The tapes at the law's loop. -/
set_option maxRecDepth 100000 in
set_option maxHeartbeats 100000000 in
theorem cM_b3 (k : Nat) : a_I cM 3 k = 0 := rfl
set_option maxRecDepth 100000 in
set_option maxHeartbeats 100000000 in
theorem cM_b114 (k : Nat) : a_I cM 114 k = 0 := rfl
theorem cM_b (k : Nat) : a_I cM 3 k = a_I cM 114 k := (cM_b3 k).trans (cM_b114 k).symm

set_option maxRecDepth 100000 in
set_option maxHeartbeats 100000000 in
theorem p1_op_0 (xs : Nat → Int32)  : p1K xs 0 := by
  refine cut (sm := 88) (sp := 11) (n := 60) (S' := (_, _, _, _, _, [.inl 0], _)) rfl ?_
  refine cut (sm := 88) (sp := 22) (n := 60) (S' := (_, _, _, _, _, [_, .inl 0], _)) rfl ?_
  refine alen_S (n := 700) rfl rfl rfl ?_
  refine cut (sm := 88) (sp := 34) (n := 60) (S' := (_, _, _, _, _, [.inl 0, _], _)) rfl ?_
  refine cut (sm := 88) (sp := 44) (n := 60) (S' := (_, _, _, _, _, [.inl 0, _], _)) rfl ?_
  refine cut (sm := 88) (sp := 11) (n := 60) (S' := (_, _, _, _, _, [.inl 1], _)) rfl ?_
  refine cut (sm := 88) (sp := 22) (n := 60) (S' := (_, _, _, _, _, [_, .inl 1], _)) rfl ?_
  refine alen_S (n := 700) rfl rfl rfl ?_
  refine cut (sm := 88) (sp := 34) (n := 60) (S' := (_, _, _, _, _, [.inl 1, _], _)) rfl ?_
  refine cut (sm := 88) (sp := 44) (n := 60) (S' := (_, _, _, _, _, [.inl 1, _], _)) rfl ?_
  refine cut (sm := 88) (sp := 11) (n := 60) (S' := (_, _, _, _, _, [.inl 2], _)) rfl ?_
  refine cut (sm := 88) (sp := 22) (n := 60) (S' := (_, _, _, _, _, [_, .inl 2], _)) rfl ?_
  refine alen_S (n := 700) rfl rfl rfl ?_
  refine cut (sm := 88) (sp := 34) (n := 60) (S' := (_, _, _, _, _, [.inl 2, _], _)) rfl ?_
  refine cut (sm := 88) (sp := 44) (n := 60) (S' := (_, _, _, _, _, [.inl 2, _], _)) rfl ?_
  refine cut (sm := 88) (sp := 11) (n := 60) (S' := (_, _, _, _, _, [.inl 3], _)) rfl ?_
  refine cut (sm := 88) (sp := 22) (n := 60) (S' := (_, _, _, _, _, [_, .inl 3], _)) rfl ?_
  refine alen_S (n := 700) rfl rfl rfl ?_
  refine cut (sm := 88) (sp := 34) (n := 60) (S' := (_, _, _, _, _, [.inl 3, _], _)) rfl ?_
  refine cut (sm := 88) (sp := 44) (n := 60) (S' := (_, _, _, _, _, [.inl 3, _], _)) rfl ?_
  refine cut (sm := 88) (sp := 11) (n := 60) (S' := (_, _, _, _, _, [.inl 4], _)) rfl ?_
  refine cut (sm := 88) (sp := 22) (n := 60) (S' := (_, _, _, _, _, [_, .inl 4], _)) rfl ?_
  refine alen_S (n := 700) rfl rfl rfl ?_
  refine cut (sm := 88) (sp := 34) (n := 60) (S' := (_, _, _, _, _, [.inl 4, _], _)) rfl ?_
  refine cut (sm := 88) (sp := 44) (n := 60) (S' := (_, _, _, _, _, [.inl 4, _], _)) rfl ?_
  refine cut (sm := 88) (sp := 11) (n := 60) (S' := (_, _, _, _, _, [.inl 5], _)) rfl ?_
  refine cut (sm := 88) (sp := 22) (n := 60) (S' := (_, _, _, _, _, [_, .inl 5], _)) rfl ?_
  refine alen_S (n := 700) rfl rfl rfl ?_
  refine cut (sm := 88) (sp := 34) (n := 60) (S' := (_, _, _, _, _, [.inl 5, _], _)) rfl ?_
  refine cut (sm := 88) (sp := 44) (n := 60) (S' := (_, _, _, _, _, [.inl 5, _], _)) rfl ?_
  refine cut (sm := 88) (sp := 11) (n := 60) (S' := (_, _, _, _, _, [.inl 6], _)) rfl ?_
  refine cut (sm := 88) (sp := 22) (n := 60) (S' := (_, _, _, _, _, [_, .inl 6], _)) rfl ?_
  refine alen_S (n := 700) rfl rfl rfl ?_
  refine cut (sm := 88) (sp := 34) (n := 60) (S' := (_, _, _, _, _, [.inl 6, _], _)) rfl ?_
  refine cut (sm := 88) (sp := 44) (n := 60) (S' := (_, _, _, _, _, [.inl 6, _], _)) rfl ?_
  refine cut (sm := 88) (sp := 11) (n := 60) (S' := (_, _, _, _, _, [.inl 7], _)) rfl ?_
  refine cut (sm := 88) (sp := 22) (n := 60) (S' := (_, _, _, _, _, [_, .inl 7], _)) rfl ?_
  refine alen_S (n := 700) rfl rfl rfl ?_
  refine cut (sm := 88) (sp := 34) (n := 60) (S' := (_, _, _, _, _, [.inl 7, _], _)) rfl ?_
  refine cut (sm := 88) (sp := 44) (n := 60) (S' := (_, _, _, _, _, [.inl 7, _], _)) rfl ?_
  refine cut (sm := 88) (sp := 11) (n := 60) (S' := (_, _, _, _, _, [.inl 8], _)) rfl ?_
  refine cut (sm := 88) (sp := 22) (n := 60) (S' := (_, _, _, _, _, [_, .inl 8], _)) rfl ?_
  refine alen_S (n := 700) rfl rfl rfl ?_
  refine cut (sm := 88) (sp := 34) (n := 60) (S' := (_, _, _, _, _, [.inl 8, _], _)) rfl ?_
  refine cut (sm := 88) (sp := 44) (n := 60) (S' := (_, _, _, _, _, [.inl 8, _], _)) rfl ?_
  refine cut (sm := 88) (sp := 11) (n := 60) (S' := (_, _, _, _, _, [.inl 9], _)) rfl ?_
  refine cut (sm := 88) (sp := 22) (n := 60) (S' := (_, _, _, _, _, [_, .inl 9], _)) rfl ?_
  refine alen_S (n := 700) rfl rfl rfl ?_
  refine cut (sm := 88) (sp := 34) (n := 60) (S' := (_, _, _, _, _, [.inl 9, _], _)) rfl ?_
  refine cut (sm := 88) (sp := 44) (n := 60) (S' := (_, _, _, _, _, [.inl 9, _], _)) rfl ?_
  refine cut (sm := 88) (sp := 11) (n := 60) (S' := (_, _, _, _, _, [.inl 10], _)) rfl ?_
  refine cut (sm := 88) (sp := 22) (n := 60) (S' := (_, _, _, _, _, [_, .inl 10], _)) rfl ?_
  refine alen_S (n := 700) rfl rfl rfl ?_
  refine cut (sm := 88) (sp := 34) (n := 60) (S' := (_, _, _, _, _, [.inl 10, _], _)) rfl ?_
  refine cut (sm := 88) (sp := 44) (n := 60) (S' := (_, _, _, _, _, [.inl 10, _], _)) rfl ?_
  refine cut (sm := 88) (sp := 11) (n := 60) (S' := (_, _, _, _, _, [.inl 11], _)) rfl ?_
  refine cut (sm := 88) (sp := 22) (n := 60) (S' := (_, _, _, _, _, [_, .inl 11], _)) rfl ?_
  refine alen_S (n := 700) rfl rfl rfl ?_
  refine cut (sm := 88) (sp := 34) (n := 60) (S' := (_, _, _, _, _, [.inl 11, _], _)) rfl ?_
  refine cut (sm := 88) (sp := 44) (n := 60) (S' := (_, _, _, _, _, [.inl 11, _], _)) rfl ?_
  refine cut (sm := 88) (sp := 11) (n := 60) (S' := (_, _, _, _, _, [.inl 12], _)) rfl ?_
  refine cut (sm := 88) (sp := 22) (n := 60) (S' := (_, _, _, _, _, [_, .inl 12], _)) rfl ?_
  refine alen_S (n := 700) rfl rfl rfl ?_
  refine cut (sm := 88) (sp := 34) (n := 60) (S' := (_, _, _, _, _, [.inl 12, _], _)) rfl ?_
  refine cut (sm := 88) (sp := 44) (n := 60) (S' := (_, _, _, _, _, [.inl 12, _], _)) rfl ?_
  refine cut (sm := 88) (sp := 11) (n := 60) (S' := (_, _, _, _, _, [.inl 13], _)) rfl ?_
  refine cut (sm := 88) (sp := 22) (n := 60) (S' := (_, _, _, _, _, [_, .inl 13], _)) rfl ?_
  refine alen_S (n := 700) rfl rfl rfl ?_
  refine cut (sm := 88) (sp := 34) (n := 60) (S' := (_, _, _, _, _, [.inl 13, _], _)) rfl ?_
  refine cut (sm := 88) (sp := 44) (n := 60) (S' := (_, _, _, _, _, [.inl 13, _], _)) rfl ?_
  refine cut (sm := 88) (sp := 11) (n := 60) (S' := (_, _, _, _, _, [.inl 14], _)) rfl ?_
  refine cut (sm := 88) (sp := 22) (n := 60) (S' := (_, _, _, _, _, [_, .inl 14], _)) rfl ?_
  refine alen_S (n := 700) rfl rfl rfl ?_
  refine cut (sm := 88) (sp := 34) (n := 60) (S' := (_, _, _, _, _, [.inl 14, _], _)) rfl ?_
  refine cut (sm := 88) (sp := 44) (n := 60) (S' := (_, _, _, _, _, [.inl 14, _], _)) rfl ?_
  refine cut (sm := 88) (sp := 11) (n := 60) (S' := (_, _, _, _, _, [.inl 15], _)) rfl ?_
  refine cut (sm := 88) (sp := 22) (n := 60) (S' := (_, _, _, _, _, [_, .inl 15], _)) rfl ?_
  refine alen_S (n := 700) rfl rfl rfl ?_
  refine cut (sm := 88) (sp := 34) (n := 60) (S' := (_, _, _, _, _, [.inl 15, _], _)) rfl ?_
  refine cut (sm := 88) (sp := 44) (n := 60) (S' := (_, _, _, _, _, [.inl 15, _], _)) rfl ?_
  refine cut (sm := 88) (sp := 11) (n := 60) (S' := (_, _, _, _, _, [.inl 16], _)) rfl ?_
  refine cut (sm := 88) (sp := 22) (n := 60) (S' := (_, _, _, _, _, [_, .inl 16], _)) rfl ?_
  refine alen_S (n := 700) rfl rfl rfl ?_
  refine cut (sm := 88) (sp := 34) (n := 60) (S' := (_, _, _, _, _, [.inl 16, _], _)) rfl ?_
  refine cut (sm := 88) (sp := 44) (n := 60) (S' := (_, _, _, _, _, [.inl 16, _], _)) rfl ?_
  refine cut (sm := 88) (sp := 11) (n := 60) (S' := (_, _, _, _, _, [.inl 17], _)) rfl ?_
  refine cut (sm := 88) (sp := 22) (n := 60) (S' := (_, _, _, _, _, [_, .inl 17], _)) rfl ?_
  refine alen_S (n := 700) rfl rfl rfl ?_
  refine cut (sm := 88) (sp := 34) (n := 60) (S' := (_, _, _, _, _, [.inl 17, _], _)) rfl ?_
  refine cut (sm := 88) (sp := 44) (n := 60) (S' := (_, _, _, _, _, [.inl 17, _], _)) rfl ?_
  refine cut (sm := 88) (sp := 11) (n := 60) (S' := (_, _, _, _, _, [.inl 18], _)) rfl ?_
  refine cut (sm := 88) (sp := 22) (n := 60) (S' := (_, _, _, _, _, [_, .inl 18], _)) rfl ?_
  refine alen_S (n := 700) rfl rfl rfl ?_
  refine cut (sm := 88) (sp := 34) (n := 60) (S' := (_, _, _, _, _, [.inl 18, _], _)) rfl ?_
  refine cut (sm := 88) (sp := 44) (n := 60) (S' := (_, _, _, _, _, [.inl 18, _], _)) rfl ?_
  refine cut (sm := 88) (sp := 11) (n := 60) (S' := (_, _, _, _, _, [.inl 19], _)) rfl ?_
  refine cut (sm := 88) (sp := 22) (n := 60) (S' := (_, _, _, _, _, [_, .inl 19], _)) rfl ?_
  refine alen_S (n := 700) rfl rfl rfl ?_
  refine cut (sm := 88) (sp := 34) (n := 60) (S' := (_, _, _, _, _, [.inl 19, _], _)) rfl ?_
  refine cut (sm := 88) (sp := 44) (n := 60) (S' := (_, _, _, _, _, [.inl 19, _], _)) rfl ?_
  refine cut (sm := 246) (sp := 222) (n := 60) (S' := (_, _, _, _, _, [.inl 20], _)) rfl ?_
  refine cut (sm := 181) (sp := 9) (n := 60) (S' := (_, _, _, _, _, [.inl 0], _)) rfl ?_
  refine cut (sm := 181) (sp := 86) (n := 60) (S' := (_, _, _, _, _, [.inl 0, _], _)) rfl ?_
  refine cut (sm := 181) (sp := 106) (n := 60) (S' := (_, _, _, _, _, [.inl 0, _], _)) rfl ?_
  refine cut (sm := 181) (sp := 86) (n := 60) (S' := (_, _, _, _, _, [.inl 1, _], _)) rfl ?_
  refine cut (sm := 181) (sp := 106) (n := 60) (S' := (_, _, _, _, _, [.inl 1, _], _)) rfl ?_
  refine cut (sm := 181) (sp := 86) (n := 60) (S' := (_, _, _, _, _, [.inl 2, _], _)) rfl ?_
  refine cut (sm := 181) (sp := 106) (n := 60) (S' := (_, _, _, _, _, [.inl 2, _], _)) rfl ?_
  refine cut (sm := 181) (sp := 86) (n := 60) (S' := (_, _, _, _, _, [.inl 3, _], _)) rfl ?_
  refine cut (sm := 181) (sp := 106) (n := 60) (S' := (_, _, _, _, _, [.inl 3, _], _)) rfl ?_
  refine cut (sm := 181) (sp := 86) (n := 60) (S' := (_, _, _, _, _, [.inl 4, _], _)) rfl ?_
  refine cut (sm := 181) (sp := 106) (n := 60) (S' := (_, _, _, _, _, [.inl 4, _], _)) rfl ?_
  refine cut (sm := 181) (sp := 86) (n := 60) (S' := (_, _, _, _, _, [.inl 5, _], _)) rfl ?_
  refine cut (sm := 181) (sp := 106) (n := 60) (S' := (_, _, _, _, _, [.inl 5, _], _)) rfl ?_
  refine cut (sm := 181) (sp := 86) (n := 60) (S' := (_, _, _, _, _, [.inl 6, _], _)) rfl ?_
  refine cut (sm := 181) (sp := 106) (n := 60) (S' := (_, _, _, _, _, [.inl 6, _], _)) rfl ?_
  refine cut (sm := 181) (sp := 86) (n := 60) (S' := (_, _, _, _, _, [.inl 7, _], _)) rfl ?_
  refine cut (sm := 181) (sp := 106) (n := 60) (S' := (_, _, _, _, _, [.inl 7, _], _)) rfl ?_
  refine cut (sm := 181) (sp := 86) (n := 60) (S' := (_, _, _, _, _, [.inl 8, _], _)) rfl ?_
  refine cut (sm := 181) (sp := 106) (n := 60) (S' := (_, _, _, _, _, [.inl 8, _], _)) rfl ?_
  refine cut (sm := 181) (sp := 86) (n := 60) (S' := (_, _, _, _, _, [.inl 9, _], _)) rfl ?_
  refine cut (sm := 181) (sp := 106) (n := 60) (S' := (_, _, _, _, _, [.inl 9, _], _)) rfl ?_
  refine cut (sm := 181) (sp := 86) (n := 60) (S' := (_, _, _, _, _, [.inl 10, _], _)) rfl ?_
  refine cut (sm := 181) (sp := 106) (n := 60) (S' := (_, _, _, _, _, [.inl 10, _], _)) rfl ?_
  refine cut (sm := 181) (sp := 86) (n := 60) (S' := (_, _, _, _, _, [.inl 11, _], _)) rfl ?_
  refine cut (sm := 181) (sp := 106) (n := 60) (S' := (_, _, _, _, _, [.inl 11, _], _)) rfl ?_
  refine cut (sm := 181) (sp := 86) (n := 60) (S' := (_, _, _, _, _, [.inl 12, _], _)) rfl ?_
  refine cut (sm := 181) (sp := 106) (n := 60) (S' := (_, _, _, _, _, [.inl 12, _], _)) rfl ?_
  refine cut (sm := 181) (sp := 86) (n := 60) (S' := (_, _, _, _, _, [.inl 13, _], _)) rfl ?_
  refine cut (sm := 181) (sp := 106) (n := 60) (S' := (_, _, _, _, _, [.inl 13, _], _)) rfl ?_
  refine cut (sm := 181) (sp := 86) (n := 60) (S' := (_, _, _, _, _, [.inl 14, _], _)) rfl ?_
  refine cut (sm := 181) (sp := 106) (n := 60) (S' := (_, _, _, _, _, [.inl 14, _], _)) rfl ?_
  refine cut (sm := 181) (sp := 86) (n := 60) (S' := (_, _, _, _, _, [.inl 15, _], _)) rfl ?_
  refine cut (sm := 181) (sp := 106) (n := 60) (S' := (_, _, _, _, _, [.inl 15, _], _)) rfl ?_
  refine cut (sm := 181) (sp := 86) (n := 60) (S' := (_, _, _, _, _, [.inl 16, _], _)) rfl ?_
  refine cut (sm := 181) (sp := 106) (n := 60) (S' := (_, _, _, _, _, [.inl 16, _], _)) rfl ?_
  refine cut (sm := 181) (sp := 86) (n := 60) (S' := (_, _, _, _, _, [.inl 17, _], _)) rfl ?_
  refine cut (sm := 181) (sp := 106) (n := 60) (S' := (_, _, _, _, _, [.inl 17, _], _)) rfl ?_
  refine cut (sm := 181) (sp := 86) (n := 60) (S' := (_, _, _, _, _, [.inl 18, _], _)) rfl ?_
  refine cut (sm := 181) (sp := 106) (n := 60) (S' := (_, _, _, _, _, [.inl 18, _], _)) rfl ?_
  refine cut (sm := 181) (sp := 86) (n := 60) (S' := (_, _, _, _, _, [.inl 19, _], _)) rfl ?_
  refine cut (sm := 181) (sp := 106) (n := 60) (S' := (_, _, _, _, _, [.inl 19, _], _)) rfl ?_
  refine cut (sm := 246) (sp := 256) (n := 60) (S' := (_, _, _, _, _, [.inl 20, .inl 20], _)) rfl ?_
  exact fin_S (n := 900) rfl

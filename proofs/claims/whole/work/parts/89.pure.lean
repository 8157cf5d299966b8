theorem pure_goal (zs : List Int32) (h : zs.length ≤ 3072) : ∃ (n : Nat) (x : eW), f_law zs n 0 w0 = some x := by
  sorry

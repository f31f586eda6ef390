/-! owed: what the walks rest on -/
theorem so_f1 {J : Nat → Nat → Nat → Int32} (h : PJ J) : dvF (fyF (fpF (gt_paint (J 0) (J 5)) (J 0 0 9))) ≤ 0 := by sorry

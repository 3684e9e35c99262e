theorem law_goal (xs : Nat → Int32) (nS : Nat) (h : nS ≤ 260) : LGoal xs nS := by sorry

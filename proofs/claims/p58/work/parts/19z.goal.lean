theorem law_goal (xs : Nat → Int32) (nS : Nat) (h : nS ≤ 260) : LGoal xs nS := goal_of h (fun _ _ _ _ _ hmn hva hwt hbk hti => text_ok hmn hva hwt hbk hti)

theorem law_pure {g : zG} {σ : zS} {b L : Nat} {xs : Nat → Int32} (h : lawPre g σ b L xs) : lawGoal g σ b := by
  sorry

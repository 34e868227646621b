/-! ===== call by call: rules ===== -/
theorem j_rules {X : kX} {d : Nat} (hd : 20 ≤ d) : kJn X d 2 234 Y_X9_rules Y_X10_rules [] := by
  sorry

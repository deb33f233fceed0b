theorem all_eq : AllEq Rel := by
  sorry

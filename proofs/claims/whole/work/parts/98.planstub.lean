theorem st_plan : Step_plan Inv := by
  sorry

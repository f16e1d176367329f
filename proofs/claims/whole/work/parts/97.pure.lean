theorem pu_wood_ok : pu_wood Rel := by
  sorry

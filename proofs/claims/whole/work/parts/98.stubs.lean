/-! ===== not proved yet ===== -/
theorem p_law : Pr_law Rel := by
  sorry
theorem p_power : Pr_power Rel := by
  sorry
theorem p_share : Pr_share Rel := by
  sorry
theorem p_burns : Pr_burns Rel := by
  sorry

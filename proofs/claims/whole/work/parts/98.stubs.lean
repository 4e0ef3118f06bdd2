/-! ===== not proved yet ===== -/
theorem p_cow : Pr_cow Rel := by
  sorry
theorem p_law : Pr_law Rel := by
  sorry
theorem p_would : Pr_would Rel := by
  sorry
theorem p_chooses : Pr_chooses Rel := by
  sorry
theorem p_days : Pr_days Rel := by
  sorry
theorem p_run : Pr_run Rel := by
  sorry
theorem p_campaign : Pr_campaign Rel := by
  sorry
theorem p_power : Pr_power Rel := by
  sorry
theorem p_share : Pr_share Rel := by
  sorry
theorem p_seat : Pr_seat Rel := by
  sorry
theorem p_cut : Pr_cut Rel := by
  sorry
theorem p_foreseen : Pr_foreseen Rel := by
  sorry
theorem p_burns : Pr_burns Rel := by
  sorry
theorem p_salted : Pr_salted Rel := by
  sorry
theorem p_storm : Pr_storm Rel := by
  sorry
theorem p_draw : Pr_draw Rel := by
  sorry
theorem p_keep : Pr_keep Rel := by
  sorry
theorem p_undo : Pr_undo Rel := by
  sorry

/-! ===== what is left: the law's function, from the empty memory, answers 1 ===== -/
def m00 : Mm := (fun _ _ => 0, fun _ _ => 0, fun _ _ => 0, fun _ => (0, 0), (0, 0))
theorem law_pure (L : Nat) (xs : Nat → Int32) (hL : L ≤ 3584) : (f_L_law_0 L xs m00 True).1 = 1 ∧ (f_L_law_0 L xs m00 True).2.2 ∧ gC (f_L_law_0 L xs m00 True).2.1 ≤ 600000 ∧ gS (f_L_law_0 L xs m00 True).2.1 ≤ 7302249 := by
  sorry

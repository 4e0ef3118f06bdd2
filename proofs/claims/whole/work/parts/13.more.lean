theorem rk0Z : rok (some .boolean) (wI 0) := by show narrow .boolean (.int 0) = .int 0; decide
theorem rk0B : rok (some .byte) (wI 0) := by show narrow .byte (.int 0) = .int 0; decide
theorem rk1Z : rok (some .boolean) (wI 1) := by show narrow .boolean (.int 1) = .int 1; decide
theorem rk1B : rok (some .byte) (wI 1) := by show narrow .byte (.int 1) = .int 1; decide

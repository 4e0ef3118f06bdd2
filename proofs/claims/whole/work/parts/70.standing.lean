/-! ===== whether a stack stands, on both sides ===== -/
theorem e_standing {m : Mm} (h : Sh m) {n s : Nat} (hn : n ≤ 12) (hs : s < n) (h6 : gI m 2 6 = nI n) (o : Prop) : F_X11_isStanding 1 (nI s) m o = (if gI m (9 + 2 * s) 7 = 0 then 0 else 1, m, o) := by
  obtain ⟨r1, r2, -, -, -⟩ := md_stk h (p := 2) (.inl rfl) (show s < 12 by omega)
  have r1 : gR m 3 s = 9 + 2 * s := r1
  have r2 : gT m (9 + 2 * s) = 8 := r2
  have hin : vp_in (nI s) 12 := vp_in_nI (by omega) (by omega)
  have hrg : 0 ≤ nI s ∧ nI s ≤ nI n - 1 := (rng_n (by omega)).mpr ⟨s, hs, rfl⟩
  unfold F_X11_isStanding f_X11_isStanding_0 bnd f_X11_isStanding_5 f_X11_isStanding_27 f_X11_isStanding_28
  simp only [e_hasStack _ h, h6, bI_0, ix, nI_clamp (show s < 2 ^ 31 by omega), shR_1_0 h, shR_2_0 h, shT_1 h, shT_2 h, shT_3 h, shN_3 h, r1, r2, hrg, not_true, if_false, hin]
  by_cases q : gI m (9 + 2 * s) 7 = 0 <;> simp [q]
theorem e_standing0 (a : Int32) {m : Mm} (h : Sh m) {n : Nat} (hn : n ≤ 12) (hs : ¬ ∃ s, s < n ∧ a = nI s) (h6 : gI m 2 6 = nI n) (o : Prop) : F_X11_isStanding 1 a m o = (0, m, o) := by
  rw [← rng_n (by omega)] at hs
  unfold F_X11_isStanding f_X11_isStanding_0 bnd f_X11_isStanding_5 f_X11_isStanding_27 f_X11_isStanding_28
  simp only [e_hasStack _ h, h6, bI_0, hs, shT_1 h, not_false_eq_true, if_true, and_true]
  simp
theorem e_thereM {m : Mm} (h : Sh m) {n s : Nat} (hn : n ≤ 12) (hs : s < n) (h2 : gI m 225 2 = nI n) (o : Prop) : F_X12_isThere 225 (nI s) m o = (if gI m 233 s = 0 then 0 else 1, m, o) := by
  have hin : vp_in (nI s) 12 := vp_in_nI (by omega) (by omega)
  have hrg : 0 ≤ nI s ∧ nI s ≤ nI n - 1 := (rng_n (by omega)).mpr ⟨s, hs, rfl⟩
  unfold F_X12_isThere f_X12_isThere_0 bnd f_X12_isThere_5 f_X12_isThere_21 f_X12_isThere_22
  simp only [e_isStackM _ h, h2, bI_0, ix, nI_clamp (show s < 2 ^ 31 by omega), shR_225_14 h, shT_225 h, shT_233 h, shN_233 h, hrg, not_true, if_false, hin]
  by_cases q : gI m 233 s = 0 <;> simp [q]
theorem e_thereM0 (a : Int32) {m : Mm} (h : Sh m) {n : Nat} (hn : n ≤ 12) (hs : ¬ ∃ s, s < n ∧ a = nI s) (h2 : gI m 225 2 = nI n) (o : Prop) : F_X12_isThere 225 a m o = (0, m, o) := by
  rw [← rng_n (by omega)] at hs
  unfold F_X12_isThere f_X12_isThere_0 bnd f_X12_isThere_5 f_X12_isThere_21 f_X12_isThere_22
  simp only [e_isStackM _ h, h2, bI_0, hs, shT_225 h, not_false_eq_true, if_true, and_true]
  simp

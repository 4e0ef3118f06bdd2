/-! ===== stackIs ===== -/
def stv (m : Mm) (q : Nat) (w : Int32) : Int32 := if w = 0 then 10 * gI m q 1 + gI m q 0 else if w = 1 then gI m q 2 else if w = 2 then gI m q 3 else if w = 3 then gI m q 4 else if w = 4 then gI m q 5 else if w = 5 then gI m q 6 else if w = 6 then (if gI m q 7 = 0 then 0 else 1) else -1
theorem e_stackIs (w : Int32) {m : Mm} (h : Sh m) {n s : Nat} (hn : n ≤ 12) (hs : s < n) (h6 : gI m 2 6 = nI n) (o : Prop) : F_X11_stackIs 1 (nI s) w m o = (stv m (9 + 2 * s) w, m, o) := by
  obtain ⟨r1, r2, -, -, -⟩ := md_stk h (p := 2) (.inl rfl) (show s < 12 by omega)
  have r1 : gR m 3 s = 9 + 2 * s := r1
  have r2 : gT m (9 + 2 * s) = 8 := r2
  have hin : vp_in (nI s) 12 := vp_in_nI (by omega) (by omega)
  have hrg : 0 ≤ nI s ∧ nI s ≤ nI n - 1 := (rng_n (by omega)).mpr ⟨s, hs, rfl⟩
  unfold F_X11_stackIs f_X11_stackIs_0 bnd f_X11_stackIs_5 f_X11_stackIs_114 stv
  simp only [e_hasStack _ h, h6, bI_0, ix, nI_clamp (show s < 2 ^ 31 by omega), shR_1_0 h, shR_2_0 h, shT_1 h, shT_2 h, shT_3 h, shN_3 h, r1, r2]
  simp only [hrg, not_true, if_false, hin]
  repeat' split
  all_goals simp_all
theorem e_stackIsM (w : Int32) {m : Mm} (h : Sh m) {n s : Nat} (hn : n ≤ 12) (hs : s < n) (h6 : gI m 225 2 = nI n) (hE : EqS m (9 + 2 * s) 227 s) (o : Prop) : F_X12_stackIs 225 (nI s) w m o = (stv m (9 + 2 * s) w, m, o) := by
  have hin : vp_in (nI s) 12 := vp_in_nI (by omega) (by omega)
  have hrg : 0 ≤ nI s ∧ nI s ≤ nI n - 1 := (rng_n (by omega)).mpr ⟨s, hs, rfl⟩
  obtain ⟨q0, q1, q2, q3, q4, q5, q6⟩ := hE
  unfold F_X12_stackIs f_X12_stackIs_0 bnd f_X12_stackIs_5 f_X12_stackIs_108 stv
  simp only [e_isStackM _ h, h6, bI_0, ix, nI_clamp (show s < 2 ^ 31 by omega), shR_225_8 h, shR_225_9 h, shR_225_10 h, shR_225_11 h, shR_225_12 h, shR_225_13 h, shR_225_14 h, shT_225 h, shT_227 h, shT_228 h, shT_229 h, shT_230 h, shT_231 h, shT_232 h, shT_233 h, shN_227 h, shN_228 h, shN_229 h, shN_230 h, shN_231 h, shN_232 h, shN_233 h]
  simp only [hrg, not_true, if_false, hin]
  repeat' split
  all_goals simp_all
theorem e_stackIs0 (a w : Int32) {m : Mm} (h : Sh m) {n : Nat} (hn : n ≤ 12) (hs : ¬ ∃ s, s < n ∧ a = nI s) (h6 : gI m 2 6 = nI n) (o : Prop) : F_X11_stackIs 1 a w m o = (-1, m, o) := by
  rw [← rng_n (by omega)] at hs
  unfold F_X11_stackIs f_X11_stackIs_0 bnd f_X11_stackIs_5
  simp only [e_hasStack _ h, h6, bI_0, hs, shT_1 h, not_false_eq_true, if_true, and_true]
theorem e_stackIsM0 (a w : Int32) {m : Mm} (h : Sh m) {n : Nat} (hn : n ≤ 12) (hs : ¬ ∃ s, s < n ∧ a = nI s) (h6 : gI m 225 2 = nI n) (o : Prop) : F_X12_stackIs 225 a w m o = (-1, m, o) := by
  rw [← rng_n (by omega)] at hs
  unfold F_X12_stackIs f_X12_stackIs_0 bnd f_X12_stackIs_5
  simp only [e_isStackM _ h, h6, bI_0, hs, shT_225 h, not_false_eq_true, if_true, and_true]
/-- a call that reads and answers the same on both sides -/
theorem PrI_at {f g : Mm → Prop → Int32 × Mm × Prop} (h : ∀ m, Rel m → ∃ v, (∀ o, f m o = (v, m, o)) ∧ ∀ o, g m o = (v, m, o)) : PrI Rel f g := by
  intro m o hR ho
  obtain ⟨v, h1, h2⟩ := h m hR
  rw [h1]
  refine ⟨ho, sh_225 hR.1, fun o' ho' => ?_⟩
  show (g m o').1 = v ∧ (g m o').2.2 ∧ Rel (g m o').2.1
  rw [h2]
  exact ⟨rfl, ho', hR⟩
theorem p_stackIs : Pr_stackIs Rel := fun a w => PrI_at (fun m hR => by
  obtain ⟨n, c, ⟨⟨hn, -⟩, ⟨h6, h2⟩, -⟩, hst, -⟩ := hR.2.2.1
  have h2 : gI m 225 2 = nI n := h2
  by_cases q : ∃ s, s < n ∧ a = nI s
  · obtain ⟨s, hs, rfl⟩ := q
    have hE : EqS m (9 + 2 * s) 227 s := by
      have := (hst s hs).2
      rw [Nat.mul_zero, Nat.zero_add] at this
      exact this
    exact ⟨_, fun o => e_stackIs w hR.1 hn hs h6 o, fun o => e_stackIsM w hR.1 hn hs h2 hE o⟩
  · exact ⟨_, fun o => e_stackIs0 a w hR.1 hn q h6 o, fun o => e_stackIsM0 a w hR.1 hn q h2 o⟩)

/-! ===== whether the words fit ===== -/
/-- the words of day t and after, a meadow at the start of day t -/
def FT (E G : (Nat → Int32) → Int32) (n c : Nat) (B : Nat → Nat) (nw : Nat) : Nat → Nat → (Nat → Nat → Int32) → Prop
  | 0, _, _ => True
  | k + 1, t, b => (∀ j, j < nw → wDay B j = t → dayT E n c b (wCow B j) = wStk B j) ∧ FT E G n c B nw k (t + 1) (dayA E G n c b)
theorem FT_over (E G : (Nat → Int32) → Int32) (n c : Nat) {B : Nat → Nat} {nw : Nat} : ∀ (k t : Nat) (b : Nat → Nat → Int32), (∀ j, j < nw → wDay B j < t) → FT E G n c B nw k t b
  | 0, _, _, _ => trivial
  | k + 1, t, b, h => ⟨fun j hj e => by have := h j hj; omega, FT_over E G n c k (t + 1) _ (fun j hj => by have := h j hj; omega)⟩
theorem l_fitC {m : Mm} (h : Sh m) {B : Nat → Nat} (hB : ∀ i, B i < 256) {nw n c t w : Nat} (hn30 : nw ≤ 30) (hc : c ≤ 16) (ht : t < 10) (hok : ∀ j, j < nw → okW B n c j) (hw : wrdC B m nw) (h4 : gI m 197 4 = nI nw) {X : Nat → Int32} (hX : ∀ x, x < c → gI m 132 x = X x) (K : Nat → Nat → Int32 → Mm → Prop → Int32 × Mm × Prop) : ∀ (k N i : Nat) (o : Prop), i + k = nw → k < N → f_X10_fits_49 K N 197 w (nI t) (nI i) m o = @ite _ (∀ j, i ≤ j → j < nw → wDay B j = t → X (wCow B j) = wStk B j) (Classical.propDecidable _) (K 197 w (nI (t + 1)) m o) (0, m, o) := by
  intro k
  induction k with
  | zero =>
    intro N i o hi hN
    obtain ⟨N, rfl⟩ : ∃ N1, N = N1 + 1 := ⟨N - 1, by omega⟩
    obtain rfl : i = nw := by omega
    show f_X10_fits_49b K (f_X10_fits_49 K N) 197 w (nI t) (nI i) m o = _
    unfold f_X10_fits_49b
    rw [if_pos (show ∀ j, i ≤ j → j < i → wDay B j = t → X (wCow B j) = wStk B j from fun j h1 h2 => by omega)]
    simp (config := {decide := true}) only [shT_197 h, h4, Int32.le_refl, nI_1, ne_eq, not_false_eq_true, and_self, and_true, true_and, and_false, false_and, true_or, or_true, false_or, or_false, not_true_eq_false, if_false, if_true]
  | succ k ih =>
    intro N i o hi hN
    obtain ⟨N, rfl⟩ : ∃ N1, N = N1 + 1 := ⟨N - 1, by omega⟩
    obtain ⟨y1, y2, y3⟩ := hw i (by omega)
    obtain ⟨z1, z2, z3⟩ := hok i (by omega)
    have hle : ¬ nI nw ≤ nI i := nI_ge (by omega) (by omega)
    have hin : vp_in (nI i) 30 := vp_in_nI (by omega) (by omega)
    have hin2 : vp_in (nI (wCow B i)) 16 := vp_in_nI (by omega) (by omega)
    have ed : (nI (wDay B i) = nI t) = (wDay B i = t) := propext (nI_eq (by omega) (by omega))
    have step : ∀ o, (wDay B i = t → X (wCow B i) = wStk B i) → f_X10_fits_49 K N 197 w (nI t) (nI (i + 1)) m o = @ite _ (∀ j, i ≤ j → j < nw → wDay B j = t → X (wCow B j) = wStk B j) (Classical.propDecidable _) (K 197 w (nI (t + 1)) m o) (0, m, o) := fun o hi' => by
      rw [ih N (i + 1) o (by omega) (by omega)]
      congr 1
      refine propext ⟨fun z j h1 h2 => ?_, fun z j h1 h2 => z j (by omega) h2⟩
      by_cases q : j = i
      · rw [q]; exact hi'
      · exact z j (by omega) h2
    show f_X10_fits_49b K (f_X10_fits_49 K N) 197 w (nI t) (nI i) m o = _
    unfold f_X10_fits_49b f_X10_fits_97
    simp (config := {decide := true}) only [shT_197 h, shR_197_0 h, shR_197_1 h, shR_197_2 h, shR_197_3 h, shT_198 h, shN_198 h, shT_199 h, shN_199 h, shT_200 h, shN_200 h, shT_128 h, shR_128_3 h, shT_132 h, shN_132 h, h4, hle, hin, hin2, ix_nI (show i < 2 ^ 31 by omega), y1, y2, y3, ed, ix_nI (show wCow B i < 2 ^ 31 by omega), hX (wCow B i) z1, nI_1, ne_eq, not_false_eq_true, and_self, and_true, true_and, and_false, false_and, true_or, or_true, false_or, or_false, not_true_eq_false, if_false, if_true]
    by_cases q : wDay B i = t
    · rw [if_pos q]
      by_cases q2 : X (wCow B i) = wStk B i
      · rw [if_pos q2]
        exact step o (fun _ => q2)
      · rw [if_neg q2, if_neg (fun z => q2 (z i (Nat.le_refl i) (by omega) q))]
    · rw [if_neg q]
      exact step o (fun z => absurd z q)

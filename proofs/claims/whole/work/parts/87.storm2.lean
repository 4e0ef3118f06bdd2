/-! ===== storm, the other side; the pair ===== -/
theorem e_wayOf {x y x' y' : Nat} (hx : x ≤ 9) (hy : y ≤ 9) (hx' : x' ≤ 9) (hy' : y' ≤ 9) (m : Mm) (o : Prop) : F_X12_wayOf (10 * nI y + nI x) (10 * nI y' + nI x') m o = (ab (nI x - nI x') + ab (nI y - nI y'), m, o) := by
  have d10 : ((10 : Int32) = 0) = False := by decide
  simp (config := {decide := true}) only [f_X12_wayOf_24, f_X12_wayOf_12, f_X12_wayOf_0, F_X12_wayOf, bnd, sq_rem hx hy, sq_rem hx' hy', sq_div hx hy, sq_div hx' hy', e_size, d10, ne_eq, not_false_eq_true, and_self, and_true, true_and, and_false, false_and, true_or, or_true, false_or, or_false, not_true_eq_false, if_false, if_true]
theorem Wf_sq {a : Nat → Nat → Int32} {n c s : Nat} (hW : WfA a n c) (hs : s < n) : (∃ x, x ≤ 9 ∧ a (7 + 2 * s) 0 = nI x) ∧ (∃ y, y ≤ 9 ∧ a (7 + 2 * s) 1 = nI y) := ⟨(hW.2.1 s hs).1, (hW.2.1 s hs).2.1⟩
theorem MM_at {m : Mm} {a : Nat → Nat → Int32} {n c s : Nat} {d : Nat → Int32} (hE : MM m a n c d) (hs : s < n) : gI m 227 s = 10 * a (7 + 2 * s) 1 + a (7 + 2 * s) 0 ∧ gI m 228 s = a (7 + 2 * s) 2 ∧ gI m 229 s = a (7 + 2 * s) 3 ∧ gI m 230 s = a (7 + 2 * s) 4 ∧ gI m 231 s = a (7 + 2 * s) 5 ∧ gI m 232 s = a (7 + 2 * s) 6 ∧ gI m 233 s = a (7 + 2 * s) 7 := by
  have := hE.1.1 s hs
  rw [Nat.mul_zero, Nat.zero_add] at this
  exact this
theorem e_canJoinM {m : Mm} (h : Sh m) {a : Nat → Nat → Int32} {n c : Nat} {d : Nat → Int32} (hE : MM m a n c d) (hW : WfA a n c) {s t : Nat} (hs : s < n) (ht : t < n) (hst : s ≠ t) (way : Int32) (o : Prop) : F_X12_canJoin 225 (nI s) (nI t) way m o = (if canD way a s t then 1 else 0, m, o) := by
  have hn := hW.1.1.1
  obtain ⟨s0, s1, -, -, -, -, s6⟩ := MM_at hE hs
  obtain ⟨t0, t1, -, -, -, -, t6⟩ := MM_at hE ht
  obtain ⟨⟨x, hx, ex⟩, ⟨y, hy, ey⟩⟩ := Wf_sq hW hs
  obtain ⟨⟨x', hx', ex'⟩, ⟨y', hy', ey'⟩⟩ := Wf_sq hW ht
  have hD : (if canD way a s t then (1 : Int32) else 0) = @ite _ (can a way s t) (Classical.propDecidable _) 1 0 := by
    by_cases q : can a way s t
    · rw [if_pos (canD_t.mpr q), if_pos q]
    · rw [if_neg (fun z => q (canD_t.mp z)), if_neg q]
  rw [hD]
  unfold can
  have hne : (nI s = nI t) = False := eq_false (fun z => hst ((nI_eq (by omega) (by omega)).mp z))
  have hin1 : vp_in (nI s) 12 := vp_in_nI (by omega) (by omega)
  have hin2 : vp_in (nI t) 12 := vp_in_nI (by omega) (by omega)
  rw [ey, ex] at s0
  rw [ey', ex'] at t0
  simp (config := {decide := true}) only [f_X12_canJoin_62, f_X12_canJoin_61, f_X12_canJoin_53, f_X12_canJoin_0, F_X12_canJoin, bnd, hne, shT_225 h, shR_225_8 h, shR_225_9 h, shR_225_14 h, shT_227 h, shN_227 h, shT_228 h, shN_228 h, shT_233 h, shN_233 h, ix_nI (show s < 2 ^ 31 by omega), ix_nI (show t < 2 ^ 31 by omega), hin1, hin2, s0, s1, s6, t0, t1, t6, ex, ey, ex', ey', e_wayOf hx hy hx' hy', ne_eq, not_false_eq_true, and_self, and_true, true_and, and_false, false_and, true_or, or_true, false_or, or_false, not_true_eq_false, if_false, if_true]
  rcases Classical.propComplete (a (7 + 2 * s) 7 = 0) with q1 | q1 <;> rcases Classical.propComplete (a (7 + 2 * t) 7 = 0) with q2 | q2 <;> rcases Classical.propComplete (a (7 + 2 * s) 2 = a (7 + 2 * t) 2) with q3 | q3 <;> rcases Classical.propComplete (way < ab (nI x - nI x') + ab (nI y - nI y')) with q4 | q4 <;> simp (config := {decide := true}) only [q1, q2, q3, q4, ne_eq, not_false_eq_true, and_self, and_true, true_and, and_false, false_and, true_or, or_true, false_or, or_false, not_true_eq_false, if_false, if_true]
def jm (m : Mm) (a : Nat → Nat → Int32) (s t : Nat) : Mm := sI (sI (sI (sI (sI (sI m 229 s (a (7 + 2 * s) 3 + a (7 + 2 * t) 3)) 229 t 0) 230 s (mn99 (a (7 + 2 * s) 4 + a (7 + 2 * t) 4))) 231 s (mx (a (7 + 2 * s) 5) (a (7 + 2 * t) 5))) 232 s (mx (a (7 + 2 * s) 6) (a (7 + 2 * t) 6))) 233 t 0
theorem le_mn99 (x : Int32) : (if x ≤ 99 then x else 99) = mn99 x := by
  unfold mn99
  by_cases q : x < 99
  · rw [if_pos q, if_pos (fa_of_lt q).1]
  · rw [if_neg q]
    by_cases q2 : x ≤ 99
    · rw [if_pos q2]
      have := fa_of_nlt q
      exact Int32.le_antisymm q2 this
    · rw [if_neg q2]
theorem le_mx (x y : Int32) : (if y ≤ x then x else y) = mx x y := by
  unfold mx
  by_cases q : x < y
  · rw [if_pos q, if_neg (fun z => (i32_nlt x y).mpr z q)]
  · rw [if_neg q, if_pos ((i32_nlt x y).mp q)]
theorem e_jo {m : Mm} (h : Sh m) {a : Nat → Nat → Int32} {n c : Nat} {d : Nat → Int32} (hE : MM m a n c d) (hn : n ≤ 12) {s t : Nat} (hs : s < n) (ht : t < n) (hst : s ≠ t) (o : Prop) : f_X12_joinsOne_50 225 (nI s) (nI t) (sI m 229 s (a (7 + 2 * s) 3 + a (7 + 2 * t) 3)) o = (1, jm m a s t, o) := by
  obtain ⟨-, -, s2, s3, s4, s5, s6⟩ := MM_at hE hs
  obtain ⟨-, -, t2, t3, t4, t5, t6⟩ := MM_at hE ht
  have hin1 : vp_in (nI s) 12 := vp_in_nI (by omega) (by omega)
  have hin2 : vp_in (nI t) 12 := vp_in_nI (by omega) (by omega)
  have e0 : (0 : Int32) &&& 1 = 0 := by decide
  have hts : (t = s) = False := eq_false (fun z => hst z.symm)
  unfold jm
  simp only [← le_mn99, ← le_mx]
  simp (config := {decide := true}) only [f_X12_joinsOne_50, f_X12_joinsOne_57, f_X12_joinsOne_98, f_X12_joinsOne_99, f_X12_joinsOne_134, f_X12_joinsOne_135, f_X12_joinsOne_170, f_X12_joinsOne_171, f_X12_joinsOne_178, gI_sI, gT_sI, gN_sI, gR_sI, shT_225 h, shR_225_10 h, shR_225_11 h, shR_225_12 h, shR_225_13 h, shR_225_14 h, shT_229 h, shN_229 h, shT_230 h, shN_230 h, shT_231 h, shN_231 h, shT_232 h, shN_232 h, shT_233 h, shN_233 h, ix_nI (show s < 2 ^ 31 by omega), ix_nI (show t < 2 ^ 31 by omega), hin1, hin2, s3, s4, s5, s6, t3, t4, t5, t6, hts, e0, ne_eq, not_false_eq_true, and_self, and_true, true_and, and_false, false_and, true_or, or_true, false_or, or_false, not_true_eq_false, if_false, if_true]
  rcases Classical.propComplete (a (7 + 2 * s) 4 + a (7 + 2 * t) 4 ≤ 99) with q1 | q1 <;> rcases Classical.propComplete (a (7 + 2 * t) 5 ≤ a (7 + 2 * s) 5) with q2 | q2 <;> rcases Classical.propComplete (a (7 + 2 * t) 6 ≤ a (7 + 2 * s) 6) with q3 | q3 <;> simp (config := {decide := true}) only [q1, q2, q3, ne_eq, not_false_eq_true, and_self, and_true, true_and, and_false, false_and, true_or, or_true, false_or, or_false, not_true_eq_false, if_false, if_true]
theorem MM_jn {m : Mm} {a : Nat → Nat → Int32} {n c : Nat} {d : Nat → Int32} (hE : MM m a n c d) (hn : n ≤ 12) {s t : Nat} (hs : s < n) (ht : t < n) (hst : s ≠ t) : MM (jm m a s t) (jn a s t) n c d := by
  have h1 := MM_S hE hs hn (f := 2) ⟨by omega, by omega⟩ (a (7 + 2 * s) 3 + a (7 + 2 * t) 3)
  have h2 := MM_S h1 ht hn (f := 2) ⟨by omega, by omega⟩ 0
  have h3 := MM_S h2 hs hn (f := 3) ⟨by omega, by omega⟩ (mn99 (a (7 + 2 * s) 4 + a (7 + 2 * t) 4))
  have h4 := MM_S h3 hs hn (f := 4) ⟨by omega, by omega⟩ (mx (a (7 + 2 * s) 5) (a (7 + 2 * t) 5))
  have h5 := MM_S h4 hs hn (f := 5) ⟨by omega, by omega⟩ (mx (a (7 + 2 * s) 6) (a (7 + 2 * t) 6))
  have h6 := MM_S h5 ht hn (f := 6) ⟨by omega, by omega⟩ 0
  have e : up (up (up (up (up (up a (7 + 2 * s) 3 (a (7 + 2 * s) 3 + a (7 + 2 * t) 3)) (7 + 2 * t) 3 0) (7 + 2 * s) 4 (mn99 (a (7 + 2 * s) 4 + a (7 + 2 * t) 4))) (7 + 2 * s) 5 (mx (a (7 + 2 * s) 5) (a (7 + 2 * t) 5))) (7 + 2 * s) 6 (mx (a (7 + 2 * s) 6) (a (7 + 2 * t) 6))) (7 + 2 * t) 7 0 = jn a s t := by
    unfold jn
    rw [up_comm _ (i := 3) (i' := 4) _ _ (by omega), up_comm _ (i := 3) (i' := 5) _ _ (by omega), up_comm _ (i := 3) (i' := 6) _ _ (by omega), up_comm _ (i := 3) (i' := 7) _ _ (by omega)]
  rw [← e]
  exact h6
theorem jm_Fr (m : Mm) (a : Nat → Nat → Int32) (s t : Nat) : Fr (fun q _ => 229 ≤ q ∧ q ≤ 233) m (jm m a s t) := Fr_sI (Fr_sI (Fr_sI (Fr_sI (Fr_sI (Fr_sI (Fr_refl _ m) ⟨by omega, by omega⟩ _) ⟨by omega, by omega⟩ _) ⟨by omega, by omega⟩ _) ⟨by omega, by omega⟩ _) ⟨by omega, by omega⟩ _) ⟨by omega, by omega⟩ _
theorem l_jo1n {m : Mm} (h : Sh m) {a : Nat → Nat → Int32} {n c : Nat} {d : Nat → Int32} (hE : MM m a n c d) (hW : WfA a n c) (way : Int32) (K : Nat → Int32 → Int32 → Mm → Prop → Int32 × Mm × Prop) {s : Nat} (hs : s < n) : ∀ (k N t : Nat) (o : Prop), t + k = n → k < N → s < t → (∀ x, t ≤ x → x < n → canD way a s x = false) → f_X12_joinsOne_14 K N 225 way (nI s) (nI t) m o = K 225 way (nI (s + 1)) m o := by
  have hn := hW.1.1.1
  have h2 : gI m 225 2 = nI n := hE.2.1.trans hW.1.2.1
  intro k
  induction k with
  | zero =>
    intro N t o ht hN hst hno
    obtain ⟨N, rfl⟩ : ∃ N1, N = N1 + 1 := ⟨N - 1, by omega⟩
    have hle : nI n ≤ nI t := nI_le (by omega) (by omega)
    show f_X12_joinsOne_14b K (f_X12_joinsOne_14 K N) 225 way (nI s) (nI t) m o = _
    simp (config := {decide := true}) only [f_X12_joinsOne_14b, h2, hle, shT_225 h, nI_1, ne_eq, not_false_eq_true, and_self, and_true, true_and, and_false, false_and, true_or, or_true, false_or, or_false, not_true_eq_false, if_false, if_true]
  | succ k ih =>
    intro N t o ht hN hst hno
    obtain ⟨N, rfl⟩ : ∃ N1, N = N1 + 1 := ⟨N - 1, by omega⟩
    have hle : ¬ nI n ≤ nI t := nI_ge (by omega) (by omega)
    have hc := hno t (by omega) (by omega)
    show f_X12_joinsOne_14b K (f_X12_joinsOne_14 K N) 225 way (nI s) (nI t) m o = _
    simp (config := {decide := true}) only [f_X12_joinsOne_14b, f_X12_joinsOne_29, bnd, h2, hle, shT_225 h, e_canJoinM h hE hW hs (show t < n by omega) (show s ≠ t by omega), hc, nI_1, ne_eq, not_false_eq_true, and_self, and_true, true_and, and_false, false_and, true_or, or_true, false_or, or_false, not_true_eq_false, if_false, if_true]
    exact ih N (t + 1) o (by omega) (by omega) (by omega) (fun x h1 h2 => hno x (by omega) h2)
theorem l_jo1y {m : Mm} (h : Sh m) {a : Nat → Nat → Int32} {n c : Nat} {d : Nat → Int32} (hE : MM m a n c d) (hW : WfA a n c) (way : Int32) (K : Nat → Int32 → Int32 → Mm → Prop → Int32 × Mm × Prop) {s e : Nat} (hs : s < n) (he : e < n) (hyes : canD way a s e = true) : ∀ (k N t : Nat) (o : Prop), t + k = e → k < N → s < t → (∀ x, t ≤ x → x < e → canD way a s x = false) → f_X12_joinsOne_14 K N 225 way (nI s) (nI t) m o = (1, jm m a s e, o) := by
  have hn := hW.1.1.1
  have h2 : gI m 225 2 = nI n := hE.2.1.trans hW.1.2.1
  intro k
  induction k with
  | zero =>
    intro N t o ht hN hst hno
    obtain ⟨N, rfl⟩ : ∃ N1, N = N1 + 1 := ⟨N - 1, by omega⟩
    obtain rfl : t = e := by omega
    have hle : ¬ nI n ≤ nI t := nI_ge (by omega) (by omega)
    have hin1 : vp_in (nI s) 12 := vp_in_nI (by omega) (by omega)
    have hin2 : vp_in (nI t) 12 := vp_in_nI (by omega) (by omega)
    obtain ⟨-, -, s2, -⟩ := MM_at hE hs
    obtain ⟨-, -, t2, -⟩ := MM_at hE he
    show f_X12_joinsOne_14b K (f_X12_joinsOne_14 K N) 225 way (nI s) (nI t) m o = _
    simp (config := {decide := true}) only [f_X12_joinsOne_14b, f_X12_joinsOne_29, bnd, h2, hle, shT_225 h, shR_225_10 h, shT_229 h, shN_229 h, e_canJoinM h hE hW hs he (show s ≠ t by omega), hyes, ix_nI (show s < 2 ^ 31 by omega), ix_nI (show t < 2 ^ 31 by omega), hin1, hin2, s2, t2, e_jo h hE hn hs he (show s ≠ t by omega), ne_eq, not_false_eq_true, and_self, and_true, true_and, and_false, false_and, true_or, or_true, false_or, or_false, not_true_eq_false, if_false, if_true]
  | succ k ih =>
    intro N t o ht hN hst hno
    obtain ⟨N, rfl⟩ : ∃ N1, N = N1 + 1 := ⟨N - 1, by omega⟩
    have hle : ¬ nI n ≤ nI t := nI_ge (by omega) (by omega)
    have hc := hno t (by omega) (by omega)
    show f_X12_joinsOne_14b K (f_X12_joinsOne_14 K N) 225 way (nI s) (nI t) m o = _
    simp (config := {decide := true}) only [f_X12_joinsOne_14b, f_X12_joinsOne_29, bnd, h2, hle, shT_225 h, e_canJoinM h hE hW hs (show t < n by omega) (show s ≠ t by omega), hc, nI_1, ne_eq, not_false_eq_true, and_self, and_true, true_and, and_false, false_and, true_or, or_true, false_or, or_false, not_true_eq_false, if_false, if_true]
    exact ih N (t + 1) o (by omega) (by omega) (by omega) (fun x h1 h2 => hno x (by omega) h2)
theorem l_jo2n {m : Mm} (h : Sh m) {a : Nat → Nat → Int32} {n c : Nat} {d : Nat → Int32} (hE : MM m a n c d) (hW : WfA a n c) (way : Int32) (hno : ∀ x y, x < y → y < n → canD way a x y = false) : ∀ (k N s : Nat) (o : Prop), s + k = n → k < N → f_X12_joinsOne_2 N 225 way (nI s) m o = (0, m, o) := by
  have hn := hW.1.1.1
  have h2 : gI m 225 2 = nI n := hE.2.1.trans hW.1.2.1
  intro k
  induction k with
  | zero =>
    intro N s o hs hN
    obtain ⟨N, rfl⟩ : ∃ N1, N = N1 + 1 := ⟨N - 1, by omega⟩
    have hle : nI n ≤ nI s := nI_le (by omega) (by omega)
    show f_X12_joinsOne_2b (f_X12_joinsOne_2 N) 225 way (nI s) m o = _
    simp (config := {decide := true}) only [f_X12_joinsOne_2b, h2, hle, shT_225 h, ne_eq, not_false_eq_true, and_self, and_true, true_and, and_false, false_and, true_or, or_true, false_or, or_false, not_true_eq_false, if_false, if_true]
  | succ k ih =>
    intro N s o hs hN
    obtain ⟨N, rfl⟩ : ∃ N1, N = N1 + 1 := ⟨N - 1, by omega⟩
    have hle : ¬ nI n ≤ nI s := nI_ge (by omega) (by omega)
    show f_X12_joinsOne_2b (f_X12_joinsOne_2 N) 225 way (nI s) m o = _
    simp (config := {decide := true}) only [f_X12_joinsOne_2b, h2, hle, shT_225 h, nI_1, ne_eq, not_false_eq_true, and_self, and_true, true_and, and_false, false_and, true_or, or_true, false_or, or_false, not_true_eq_false, if_false, if_true]
    rw [l_jo1n h hE hW way _ (show s < n by omega) (n - (s + 1)) 1000 (s + 1) o (by omega) (by omega) (by omega) (fun x h1 h2 => hno s x (by omega) h2)]
    exact ih N (s + 1) o (by omega) (by omega)
theorem l_jo2y {m : Mm} (h : Sh m) {a : Nat → Nat → Int32} {n c : Nat} {d : Nat → Int32} (hE : MM m a n c d) (hW : WfA a n c) (way : Int32) {b e : Nat} (hbe : b < e) (he : e < n) (hyes : canD way a b e = true) (hno : ∀ x y, x < y → y < n → (x < b ∨ (x = b ∧ y < e)) → canD way a x y = false) : ∀ (k N s : Nat) (o : Prop), s + k = b → k < N → f_X12_joinsOne_2 N 225 way (nI s) m o = (1, jm m a b e, o) := by
  have hn := hW.1.1.1
  have h2 : gI m 225 2 = nI n := hE.2.1.trans hW.1.2.1
  intro k
  induction k with
  | zero =>
    intro N s o hs hN
    obtain ⟨N, rfl⟩ : ∃ N1, N = N1 + 1 := ⟨N - 1, by omega⟩
    obtain rfl : s = b := by omega
    have hle : ¬ nI n ≤ nI s := nI_ge (by omega) (by omega)
    show f_X12_joinsOne_2b (f_X12_joinsOne_2 N) 225 way (nI s) m o = _
    simp (config := {decide := true}) only [f_X12_joinsOne_2b, h2, hle, shT_225 h, nI_1, ne_eq, not_false_eq_true, and_self, and_true, true_and, and_false, false_and, true_or, or_true, false_or, or_false, not_true_eq_false, if_false, if_true]
    exact l_jo1y h hE hW way _ (show s < n by omega) he hyes (e - (s + 1)) 1000 (s + 1) o (by omega) (by omega) (by omega) (fun x h1 h2 => hno s x (by omega) (by omega) (by omega))
  | succ k ih =>
    intro N s o hs hN
    obtain ⟨N, rfl⟩ : ∃ N1, N = N1 + 1 := ⟨N - 1, by omega⟩
    have hle : ¬ nI n ≤ nI s := nI_ge (by omega) (by omega)
    show f_X12_joinsOne_2b (f_X12_joinsOne_2 N) 225 way (nI s) m o = _
    simp (config := {decide := true}) only [f_X12_joinsOne_2b, h2, hle, shT_225 h, nI_1, ne_eq, not_false_eq_true, and_self, and_true, true_and, and_false, false_and, true_or, or_true, false_or, or_false, not_true_eq_false, if_false, if_true]
    rw [l_jo1n h hE hW way _ (show s < n by omega) (n - (s + 1)) 1000 (s + 1) o (by omega) (by omega) (by omega) (fun x h1 h2 => hno s x (by omega) h2 (by omega))]
    exact ih N (s + 1) o (by omega) (by omega)
theorem WfA_jn {a : Nat → Nat → Int32} {n c : Nat} (hW : WfA a n c) {way : Int32} {s t : Nat} (hst : s < t) (ht : t < n) (hc : can a way s t) : WfA (jn a s t) n c := by
  obtain ⟨⟨⟨w1, w2⟩, w3, w4, w5, w6⟩, w7, w8, w9, w10⟩ := hW
  have e0 : ∀ i, jn a s t 0 i = a 0 i := fun i => jn_ne _ _ _ (.inl ⟨by omega, by omega⟩)
  have v3 : ∀ x, jn a s t (7 + 2 * x) 3 = if x = t then 0 else if x = s then a (7 + 2 * s) 3 + a (7 + 2 * t) 3 else a (7 + 2 * x) 3 := fun x => by
    unfold jn
    by_cases q : x = t
    · subst q; rw [up_same, if_pos rfl]
    · rw [if_neg q, up_ne _ _ (by omega), up_ne _ _ (by omega), up_ne _ _ (by omega), up_ne _ _ (by omega), up_ne _ _ (by omega)]
      by_cases q2 : x = s
      · subst q2; rw [up_same, if_pos rfl]
      · rw [up_ne _ _ (by omega), if_neg q2]
  have v4 : ∀ x, jn a s t (7 + 2 * x) 4 = if x = s then mn99 (a (7 + 2 * s) 4 + a (7 + 2 * t) 4) else a (7 + 2 * x) 4 := fun x => by
    unfold jn
    rw [up_ne _ _ (by omega), up_ne _ _ (by omega), up_ne _ _ (by omega), up_ne _ _ (by omega)]
    by_cases q2 : x = s
    · subst q2; rw [up_same, if_pos rfl]
    · rw [up_ne _ _ (by omega), up_ne _ _ (by omega), if_neg q2]
  have v5 : ∀ x, jn a s t (7 + 2 * x) 5 = if x = s then mx (a (7 + 2 * s) 5) (a (7 + 2 * t) 5) else a (7 + 2 * x) 5 := fun x => by
    unfold jn
    rw [up_ne _ _ (by omega), up_ne _ _ (by omega), up_ne _ _ (by omega)]
    by_cases q2 : x = s
    · subst q2; rw [up_same, if_pos rfl]
    · rw [up_ne _ _ (by omega), up_ne _ _ (by omega), up_ne _ _ (by omega), if_neg q2]
  have v6 : ∀ x, jn a s t (7 + 2 * x) 6 = if x = s then mx (a (7 + 2 * s) 6) (a (7 + 2 * t) 6) else a (7 + 2 * x) 6 := fun x => by
    unfold jn
    rw [up_ne _ _ (by omega), up_ne _ _ (by omega)]
    by_cases q2 : x = s
    · subst q2; rw [up_same, if_pos rfl]
    · rw [up_ne _ _ (by omega), up_ne _ _ (by omega), up_ne _ _ (by omega), up_ne _ _ (by omega), if_neg q2]
  have v7 := fun x => jn_7 a (s := s) (t := t) (by omega) (x := x)
  obtain ⟨-, -, -, ⟨hs', hsl, es3⟩, ⟨vs, hvs, es4⟩, ⟨ws, hws, es5⟩, ⟨ts, hts, es6, es7⟩, sst⟩ := w7 s (by omega)
  obtain ⟨-, -, -, ⟨ht', htl, et3⟩, ⟨vt, hvt, et4⟩, ⟨wt, hwt, et5⟩, ⟨tt, htt, et6, et7⟩, stt⟩ := w7 t ht
  have hsum2 : hs' + ht' ≤ 999 * n := by
    have := hsum_ge2 (fun s => a (7 + 2 * s) 3) (s := s) (t := t) (n := n) hst ht
    simp only [es3, et3, nI_clamp hsl, nI_clamp htl] at this
    omega
  have mx_nI : ∀ {p q : Nat} (B : Nat), p ≤ B → q ≤ B → B < 2 ^ 31 → ∃ r, r ≤ B ∧ mx (nI p) (nI q) = nI r := fun {p q} B hp hq hB => by
    unfold mx
    by_cases z : nI p < nI q
    · rw [if_pos z]; exact ⟨q, hq, rfl⟩
    · rw [if_neg z]; exact ⟨p, hp, rfl⟩
  refine ⟨?_, fun x hx => ?_, ?_, fun i hi => ?_, fun x hx i h1 h2 => ?_⟩
  · unfold wN
    simp only [e0]
    exact ⟨⟨w1, w2⟩, w3, w4, w5, w6⟩
  · obtain ⟨f0, f1, f2, f3, f4, f5, f6, f7⟩ := w7 x hx
    unfold wS
    rw [jn_ne a s t (y := 0) (.inr (.inl (by omega))), jn_ne a s t (y := 1) (.inr (.inl (by omega))), jn_ne a s t (y := 2) (.inr (.inl (by omega))), v3, v4, v5, v6, v7]
    by_cases q : x = t
    · subst q
      have q2 : ¬ x = s := by omega
      simp only [if_true, if_neg q2]
      refine ⟨f0, f1, f2, ⟨0, by omega, rfl⟩, f4, f5, ?_, .inl trivial⟩
      obtain ⟨r, hr, er, -⟩ := f6
      exact ⟨r, hr, er, fun z => absurd z (by decide)⟩
    · simp only [if_neg q]
      by_cases q2 : x = s
      · subst q2
        simp only [if_true]
        refine ⟨f0, f1, f2, ?_, ?_, ?_, ?_, f7⟩
        · rw [es3, et3, nI_add]; exact ⟨hs' + ht', by omega, rfl⟩
        · rw [es4, et4, nI_add]
          unfold mn99
          by_cases z : nI (vs + vt) < 99
          · rw [if_pos z]
            have := (nI_ltI (a := vs + vt) (b := 99) (by omega) (by omega)).mp z
            exact ⟨vs + vt, by omega, rfl⟩
          · rw [if_neg z]; exact ⟨99, by omega, rfl⟩
        · rw [es5, et5]; exact mx_nI 99 hws hwt (by omega)
        · have k1 := es7 (sst.resolve_left hc.1)
          have k2 := et7 (stt.resolve_left hc.2.1)
          rw [es6, et6]
          obtain ⟨r, hr, er⟩ := mx_nI 499 k1 k2 (by omega)
          exact ⟨r, by omega, er, fun _ => hr⟩
      · simp only [if_neg q2]
        exact ⟨f0, f1, f2, f3, f4, f5, f6, f7⟩
  · have g1 := hsum_set (fun s => a (7 + 2 * s) 3) (a (7 + 2 * s) 3 + a (7 + 2 * t) 3) (s := s) (n := n) (by omega)
    have g2 := hsum_set (fun x => if x = s then a (7 + 2 * s) 3 + a (7 + 2 * t) 3 else a (7 + 2 * x) 3) 0 (s := t) (n := n) ht
    rw [hsum_congr (g := fun x => if x = t then 0 else if x = s then a (7 + 2 * s) 3 + a (7 + 2 * t) 3 else a (7 + 2 * x) 3) (fun x _ => v3 x)]
    simp only [es3, et3, nI_add, nI_clamp hsl, if_neg (show ¬ t = s by omega), nI_clamp htl, nI_clamp (show hs' + ht' < 2 ^ 31 by omega), show (0 : Int32).toNatClampNeg = 0 by decide] at g1 g2 ⊢
    omega
  · have := w9 i hi
    have e1 : ∀ g, jn a s t (31 + 2 * i) g = a (31 + 2 * i) g := fun g => jn_ne _ _ _ (.inl ⟨by omega, by omega⟩)
    have e2 : ∀ g, jn a s t (32 + 2 * i) g = a (32 + 2 * i) g := fun g => jn_ne _ _ _ (.inl ⟨by omega, by omega⟩)
    unfold wC at this ⊢
    simp only [e1, e2]
    exact this
  · rw [jn_ne _ _ _ (.inl ⟨by omega, by omega⟩)]
    exact w10 x hx i h1 h2
def noB (a : Nat → Nat → Int32) (way : Int32) (n s t : Nat) : Prop := ∀ x y, x < y → y < n → (x < s ∨ (x = s ∧ y < t)) → canD way a x y = false
theorem noB_jn {a : Nat → Nat → Int32} {way : Int32} {n s t : Nat} (hst : s < t) (h : noB a way n s t) : noB (jn a s t) way n s (t + 1) := fun x y hxy hy hb => by
  rw [← Bool.not_eq_true]
  intro z
  obtain ⟨z1, z2, z3⟩ := can_jn (by omega) (canD_t.mp z)
  have := h x y hxy hy (by omega)
  rw [canD_t.mpr z1] at this
  exact absurd this (by decide)
theorem e_storm1 {m : Mm} (h : Sh m) {a : Nat → Nat → Int32} {n c : Nat} {d : Nat → Int32} (hE : MM m a n c d) (hW : WfA a n c) {way : Int32} {s t : Nat} (hst : s < t) (ht : t < n) (hyes : canD way a s t = true) (hno : noB a way n s t) (N : Nat) (v : Int32) (o : Prop) : f_X12_storm_16 (N + 1) 225 way v m o = f_X12_storm_16 N 225 way (v + 1) (jm m a s t) o := by
  have hn := hW.1.1.1
  have hl := fun o => l_jo2y h hE hW way hst ht hyes hno s 1000 0 o (by omega) (by omega)
  rw [nI_0] at hl
  have hl : ∀ o, F_X12_joinsOne 225 way m o = (1, jm m a s t, o) := hl
  show f_X12_storm_16b (f_X12_storm_16 N) 225 way v m o = _
  simp (config := {decide := true}) only [f_X12_storm_16b, f_X12_storm_21, bnd, shT_225 h, hl, ne_eq, not_false_eq_true, and_self, and_true, true_and, and_false, false_and, true_or, or_true, false_or, or_false, not_true_eq_false, if_false, if_true]
theorem e_storm0 {m : Mm} (h : Sh m) {a : Nat → Nat → Int32} {n c : Nat} {d : Nat → Int32} (hE : MM m a n c d) (hW : WfA a n c) {way : Int32} (hno : ∀ x y, x < y → y < n → canD way a x y = false) (N : Nat) (v : Int32) (o : Prop) : f_X12_storm_16 (N + 1) 225 way v m o = (v, m, o) := by
  have hn := hW.1.1.1
  have hl := fun o => l_jo2n h hE hW way hno n 1000 0 o (by omega) (by omega)
  rw [nI_0] at hl
  have hl : ∀ o, F_X12_joinsOne 225 way m o = (0, m, o) := hl
  show f_X12_storm_16b (f_X12_storm_16 N) 225 way v m o = _
  simp (config := {decide := true}) only [f_X12_storm_16b, f_X12_storm_21, bnd, shT_225 h, hl, ne_eq, not_false_eq_true, and_self, and_true, true_and, and_false, false_and, true_or, or_true, false_or, or_false, not_true_eq_false, if_false, if_true]
theorem l_stormM1 (way : Int32) {n c : Nat} {d : Nat → Int32} {s : Nat} : ∀ (k t : Nat) (z : (Nat → Nat → Int32) × Int32) (m : Mm) (N : Nat), Sh m → MM m z.1 n c d → WfA z.1 n c → noB z.1 way n s t → t + k = n → s < t → ∃ m' N', (∀ o, f_X12_storm_16 (N + k) 225 way z.2 m o = f_X12_storm_16 (N + N') 225 way (stI way s (canD way) z t k).2 m' o) ∧ MM m' (stI way s (canD way) z t k).1 n c d ∧ WfA (stI way s (canD way) z t k).1 n c ∧ noB (stI way s (canD way) z t k).1 way n s n ∧ Fr (fun q _ => 229 ≤ q ∧ q ≤ 233) m m' := by
  intro k
  induction k with
  | zero =>
    intro t z m N h hE hW hno ht hst
    obtain rfl : t = n := by omega
    exact ⟨m, 0, fun o => rfl, hE, hW, hno, Fr_refl _ m⟩
  | succ k ih =>
    intro t z m N h hE hW hno ht hst
    have hn := hW.1.1.1
    rw [stI]
    by_cases q : canD way z.1 s t = true
    · have hF := jm_Fr m z.1 s t
      obtain ⟨m', N', h1, h2, h3, h4, h5⟩ := ih (t + 1) (jn z.1 s t, z.2 + 1) (jm m z.1 s t) N (Fr_Sh hF h) (MM_jn hE hn (by omega) (by omega) (by omega)) (WfA_jn hW hst (by omega) (canD_t.mp q)) (noB_jn hst hno) (by omega) (by omega)
      rw [if_pos q]
      refine ⟨m', N', fun o => ?_, h2, h3, h4, Fr_trans hF h5⟩
      rw [← Nat.add_assoc, e_storm1 h hE hW hst (by omega) q hno]
      exact h1 o
    · have hno' : noB z.1 way n s (t + 1) := fun x y hxy hy hb => by
        by_cases e : x = s ∧ y = t
        · rw [e.1, e.2, ← Bool.not_eq_true]; exact q
        · exact hno x y hxy hy (by omega)
      obtain ⟨m', N', h1, h2, h3, h4, h5⟩ := ih (t + 1) z m (N + 1) h hE hW hno' (by omega) (by omega)
      rw [if_neg q]
      refine ⟨m', N' + 1, fun o => ?_, h2, h3, h4, h5⟩
      have := h1 o
      rw [show N + 1 + k = N + (k + 1) by omega, show N + 1 + N' = N + (N' + 1) by omega] at this
      exact this
theorem l_stormM2 (way : Int32) {n c : Nat} {d : Nat → Int32} : ∀ (k s : Nat) (z : (Nat → Nat → Int32) × Int32) (m : Mm) (N : Nat), Sh m → MM m z.1 n c d → WfA z.1 n c → noB z.1 way n s (s + 1) → s + k = n → ∃ m', (∀ o, f_X12_storm_16 (N + 1 + 12 * k) 225 way z.2 m o = ((stO way n (canD way) z s k).2, m', o)) ∧ MM m' (stO way n (canD way) z s k).1 n c d ∧ WfA (stO way n (canD way) z s k).1 n c ∧ Fr (fun q _ => 229 ≤ q ∧ q ≤ 233) m m' := by
  intro k
  induction k with
  | zero =>
    intro s z m N h hE hW hno hs
    refine ⟨m, fun o => ?_, hE, hW, Fr_refl _ m⟩
    exact e_storm0 h hE hW (fun x y hxy hy => hno x y hxy hy (by omega)) N z.2 o
  | succ k ih =>
    intro s z m N h hE hW hno hs
    have hn := hW.1.1.1
    obtain ⟨m1, N1, a1, a2, a3, a4, a5⟩ := l_stormM1 way (s := s) (n - (s + 1)) (s + 1) z m (N + 1 + 12 * (k + 1) - (n - (s + 1))) h hE hW hno (by omega) (by omega)
    obtain ⟨m2, b1, b2, b3, b4⟩ := ih (s + 1) (stI way s (canD way) z (s + 1) (n - (s + 1))) m1 (N + 1 + 12 * (k + 1) - (n - (s + 1)) + N1 - 1 - 12 * k) (Fr_Sh a5 h) a2 a3 (fun x y hxy hy hb => a4 x y hxy hy (by omega)) (by omega)
    refine ⟨m2, fun o => ?_, b2, b3, Fr_trans a5 b4⟩
    have e1 := a1 o
    rw [show N + 1 + 12 * (k + 1) - (n - (s + 1)) + (n - (s + 1)) = N + 1 + 12 * (k + 1) by omega] at e1
    have e2 := b1 o
    rw [show N + 1 + 12 * (k + 1) - (n - (s + 1)) + N1 - 1 - 12 * k + 1 + 12 * k = N + 1 + 12 * (k + 1) - (n - (s + 1)) + N1 by omega] at e2
    rw [e1, e2]
    rfl
theorem p_storm : Pr_storm Rel := fun a => PrI_ex (fun m hR => by
  have h := hR.1
  have hl := e_lies a 1 9
  rw [show Int32.toInt64 1 = 1 by decide, show Int32.toInt64 9 = 9 by decide] at hl
  by_cases qa : 1 ≤ a ∧ a ≤ 9
  · have ra : (1 ≤ a ∧ a ≤ 9) = True := eq_true qa
    obtain ⟨g, n, c, hM, hW, hE⟩ := ghost_of hR
    have hn := hW.1.1.1
    obtain ⟨m1, a1, a2, a3⟩ := l_join2 a hn n 1000 0 (g, 0) m h hM hW.1.2.1 (by omega) (by omega)
    rw [nI_0] at a1
    have a1 : ∀ o, F_X5_joinWithin 2 a m o = ((stO a n (canD a) (g, 0) 0 n).2, m1, o) := a1
    have hE1 : MM m1 g n c d0 := MM_frame hE (fun q i hq => a3.2 q i (by omega))
    obtain ⟨m2, b1, b2, b3, b4⟩ := l_stormM2 a n 0 (g, 0) m1 (999 - 12 * n) (Fr_Sh a3 h) hE1 hW (fun x y hxy hy hb => by omega) (by omega)
    rw [show 999 - 12 * n + 1 + 12 * n = 1000 by omega] at b1
    have h1 := Fr_Sh a3 h
    have h2 := Fr_Sh b4 h1
    refine ⟨(stO a n (canD a) (g, 0) 0 n).2, m1, m2, fun o => ?_, h1, fun o => ?_, Rel_ghost hR h2 ⟨(Fr_R b4 1 9).trans (Fr_R a3 1 9), (Fr_R b4 1 10).trans (Fr_R a3 1 10)⟩ (fun q i hq => ?_) (Md_frame a2 (fun q i hq => b4.2 q i ?_)) b3 b2⟩
    · simp (config := {decide := true}) only [f_X11_storm_22, f_X11_storm_18, f_X11_storm_7, f_X11_storm_0, F_X11_storm, bnd, e_isWithin, ra, bI_0, shT_1 h, shR_1_0 h, shT_2 h, a1, ne_eq, not_false_eq_true, and_self, and_true, true_and, and_false, false_and, true_or, or_true, false_or, or_false, not_true_eq_false, if_false, if_true]
    · simp (config := {decide := true}) only [f_X12_storm_21, f_X12_storm_9, f_X12_storm_0, F_X12_storm, bnd, hl, ra, bI_0, shT_225 h1, ne_eq, not_false_eq_true, and_self, and_true, true_and, and_false, false_and, true_or, or_true, false_or, or_false, not_true_eq_false, if_false, if_true]
      exact b1 o
    · have : ¬ (9 ≤ q ∧ q ≤ 32) ∧ ¬ (229 ≤ q ∧ q ≤ 233) := by unfold keepP inKept inTape inLaw at hq; omega
      rw [b4.2 q i this.2, a3.2 q i this.1]
    · unfold inM at hq; omega
  · have ra : (1 ≤ a ∧ a ≤ 9) = False := eq_false qa
    refine ⟨-1, m, m, fun o => ?_, h, fun o => ?_, hR⟩
    · simp (config := {decide := true}) only [f_X11_storm_22, f_X11_storm_18, f_X11_storm_7, f_X11_storm_0, F_X11_storm, bnd, e_isWithin, ra, bI_0, ne_eq, not_false_eq_true, and_self, and_true, true_and, and_false, false_and, true_or, or_true, false_or, or_false, not_true_eq_false, if_false, if_true]
    · simp (config := {decide := true}) only [f_X12_storm_21, f_X12_storm_9, f_X12_storm_0, F_X12_storm, bnd, hl, ra, bI_0, ne_eq, not_false_eq_true, and_self, and_true, true_and, and_false, false_and, true_or, or_true, false_or, or_false, not_true_eq_false, if_false, if_true])

/-! ===== cowIs ===== -/
def cov (m : Mm) (q : Nat) (w : Int32) : Int32 := if w = 0 then 10 * gI m q 1 + gI m q 0 else if w = 1 then gI m q 2 else if w = 2 then gI m q 3 else if w = 3 then gI m q 4 else if 10 ≤ w ∧ w ≤ 14 then gI m (q + 1) (ix (w - 10)) else -1000
theorem rng_lo {a : Int32} (h : 10 ≤ a ∧ a ≤ 14) : ∃ j, j < 5 ∧ a = nI (10 + j) := by
  obtain ⟨h1, h2⟩ := h
  have h0 : ¬ a < 0 := by rw [Int32.lt_iff_toInt_lt]; rw [Int32.le_iff_toInt_le] at h1; have e : (10 : Int32).toInt = 10 := by decide
                          have e0 : (0 : Int32).toInt = 0 := by decide
                          omega
  obtain ⟨j, hj, rfl⟩ := nI_of h0
  rw [Int32.le_iff_toInt_le, nI_toInt hj] at h1 h2
  have e1 : (10 : Int32).toInt = 10 := by decide
  have e2 : (14 : Int32).toInt = 14 := by decide
  exact ⟨j - 10, by omega, by congr 1; omega⟩
theorem e_cowIs (w : Int32) {m : Mm} (h : Sh m) {n s : Nat} (hn : n ≤ 16) (hs : s < n) (h7 : gI m 2 7 = nI n) (o : Prop) : F_X11_cowIs 1 (nI s) w m o = (cov m (33 + 2 * s) w, m, o) := by
  obtain ⟨r1, r2, r3, r4, r5⟩ := md_cow h (p := 2) (.inl rfl) (show s < 16 by omega)
  have r1 : gR m 4 s = 33 + 2 * s := r1
  have r2 : gT m (33 + 2 * s) = 2 := r2
  have r3 : gR m (33 + 2 * s) 5 = 33 + 2 * s + 1 := by rw [show 33 + 2 * s + 1 = 2 + 32 + 2 * s by omega]; exact r3
  have r4 : gT m (33 + 2 * s + 1) = 20 := by rw [show 33 + 2 * s + 1 = 2 + 32 + 2 * s by omega]; exact r4
  have r5 : gN m (33 + 2 * s + 1) = 5 := by rw [show 33 + 2 * s + 1 = 2 + 32 + 2 * s by omega]; exact r5
  have hin : vp_in (nI s) 16 := vp_in_nI (by omega) (by omega)
  have hrg : 0 ≤ nI s ∧ nI s ≤ nI n - 1 := (rng_n (by omega)).mpr ⟨s, hs, rfl⟩
  have hw : (10 ≤ w ∧ w ≤ 14) → vp_in (w - 10) 5 := fun q => by
    obtain ⟨j, hj, rfl⟩ := rng_lo q
    have e : nI (10 + j) - 10 = nI j := by
      have := pk_sub (a := 10 + j) (b := 10) (by omega)
      rw [Nat.add_sub_cancel_left] at this
      exact this
    rw [e]
    exact vp_in_nI hj (by omega)
  unfold F_X11_cowIs f_X11_cowIs_0 bnd f_X11_cowIs_5 f_X11_cowIs_88 f_X11_cowIs_106 cov bnd
  simp only [e_hasCow _ h, e_isWithin, h7, bI_0, ix, nI_clamp (show s < 2 ^ 31 by omega), shR_1_0 h, shR_2_1 h, shT_1 h, shT_2 h, shT_4 h, shN_4 h, r1, r2, r3, r4, r5]
  simp only [hrg, not_true, if_false, hin]
  repeat' split
  all_goals simp_all
theorem e_cowIsM (w : Int32) {m : Mm} (h : Sh m) {n s : Nat} (hn : n ≤ 16) (hs : s < n) (h7 : gI m 225 3 = nI n) (hE : EqC m (33 + 2 * s) 227 s (5 * s)) (o : Prop) : F_X12_cowIs 225 (nI s) w m o = (cov m (33 + 2 * s) w, m, o) := by
  have hin : vp_in (nI s) 16 := vp_in_nI (by omega) (by omega)
  have hrg : 0 ≤ nI s ∧ nI s ≤ nI n - 1 := (rng_n (by omega)).mpr ⟨s, hs, rfl⟩
  obtain ⟨q0, q1, q2, q3, q4⟩ := hE
  have hl := e_lies w 10 14
  rw [show Int32.toInt64 10 = 10 by decide, show Int32.toInt64 14 = 14 by decide] at hl
  unfold F_X12_cowIs f_X12_cowIs_0 bnd f_X12_cowIs_5 f_X12_cowIs_23 cov bnd
  by_cases q : 10 ≤ w ∧ w ≤ 14
  · obtain ⟨j, hj, e⟩ := rng_lo q
    have w0 : ¬ w = 0 := fun z => by rw [z] at q; exact absurd q.1 (by decide)
    have w1 : ¬ w = 1 := fun z => by rw [z] at q; exact absurd q.1 (by decide)
    have w2 : ¬ w = 2 := fun z => by rw [z] at q; exact absurd q.1 (by decide)
    have w3 : ¬ w = 3 := fun z => by rw [z] at q; exact absurd q.1 (by decide)
    have e1 : (5 : Int32) * nI s + w - 10 = nI (5 * s + j) := by
      rw [e, show (5 : Int32) = nI 5 from rfl, pk_mul, nI_add, show (10 : Int32) = nI 10 from rfl, pk_sub (by omega)]
      congr 1
      omega
    have e2 : w - 10 = nI j := by
      rw [e, show (10 : Int32) = nI 10 from rfl, pk_sub (by omega)]
      congr 1
      omega
    have hi2 : vp_in (nI (5 * s + j)) 80 := vp_in_nI (by omega) (by omega)
    have q4j : gI m 238 (5 * s + j) = gI m (33 + 2 * s + 1) j := q4 j hj
    simp only [e_isCowM _ h, hl, h7, bI_0, ix, hrg, q, w0, w1, w2, w3, e1, e2, not_true, if_false, if_true, shR_225_19 h, shT_225 h, shT_238 h, shN_238 h, nI_clamp (show 5 * s + j < 2 ^ 31 by omega), nI_clamp (show j < 2 ^ 31 by omega), q4j, hi2]
    simp
  · simp only [e_isCowM _ h, hl, h7, bI_0, ix, hrg, q, not_true, not_false_eq_true, if_false, if_true, nI_clamp (show s < 2 ^ 31 by omega), shR_225_15 h, shR_225_16 h, shR_225_17 h, shR_225_18 h, shT_225 h, shT_234 h, shT_235 h, shT_236 h, shT_237 h, shN_234 h, shN_235 h, shN_236 h, shN_237 h, hin]
    repeat' split
    all_goals simp_all
theorem e_cowIs0 (a w : Int32) {m : Mm} (h : Sh m) {n : Nat} (hn : n ≤ 16) (hs : ¬ ∃ s, s < n ∧ a = nI s) (h7 : gI m 2 7 = nI n) (o : Prop) : F_X11_cowIs 1 a w m o = (-1000, m, o) := by
  rw [← rng_n (by omega)] at hs
  unfold F_X11_cowIs f_X11_cowIs_0 bnd f_X11_cowIs_5
  simp only [e_hasCow _ h, h7, bI_0, hs, shT_1 h, not_false_eq_true, if_true, and_true]
theorem e_cowIsM0 (a w : Int32) {m : Mm} (h : Sh m) {n : Nat} (hn : n ≤ 16) (hs : ¬ ∃ s, s < n ∧ a = nI s) (h7 : gI m 225 3 = nI n) (o : Prop) : F_X12_cowIs 225 a w m o = (-1000, m, o) := by
  rw [← rng_n (by omega)] at hs
  unfold F_X12_cowIs f_X12_cowIs_0 bnd f_X12_cowIs_5
  simp only [e_isCowM _ h, h7, bI_0, hs, shT_225 h, not_false_eq_true, if_true, and_true]
theorem p_cowIs : Pr_cowIs Rel := fun a w => PrI_at (fun m hR => by
  obtain ⟨n, c, ⟨⟨-, hc⟩, -, ⟨h7, h3⟩, -⟩, -, -, hco, -⟩ := hR.2.2.1
  have h3 : gI m 225 3 = nI c := h3
  by_cases q : ∃ s, s < c ∧ a = nI s
  · obtain ⟨s, hs, rfl⟩ := q
    have hE : EqC m (33 + 2 * s) 227 s (5 * s) := by
      have := (hco s hs).2
      rw [Nat.mul_zero, Nat.zero_add, Nat.zero_add] at this
      exact this
    exact ⟨_, fun o => e_cowIs w hR.1 hc hs h7 o, fun o => e_cowIsM w hR.1 hc hs h3 hE o⟩
  · exact ⟨_, fun o => e_cowIs0 a w hR.1 hc q h7 o, fun o => e_cowIsM0 a w hR.1 hc q h3 o⟩)

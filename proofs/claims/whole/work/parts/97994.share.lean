/-! ===== power and share ===== -/
theorem sz_out {x S : Nat} (h : ¬ S.testBit x = true) : ∀ k, szN k S + (if x < k then 1 else 0) ≤ k
  | 0 => by rw [if_neg (by omega)]; exact Nat.le_refl _
  | k + 1 => by
    have ih := sz_out h k
    show szN k S + _ + _ ≤ k + 1
    by_cases q : k = x
    · subst q
      rw [if_neg (by omega)] at ih
      rw [if_neg h, if_pos (by omega)]
      omega
    · have e1 : (x < k + 1) = (x < k) := propext ⟨fun _ => by omega, fun _ => by omega⟩
      simp only [e1]
      have : (if S.testBit k = true then 1 else 0) ≤ 1 := by split <;> omega
      omega
theorem fac16 : fac 16 = 20922789888000 := rfl
theorem fac_le16 {n : Nat} (h : n ≤ 16) : fac n ≤ 20922789888000 := by
  have := fac_mono (a := n) (16 - n)
  rw [show n + (16 - n) = 16 by omega, fac16] at this
  exact this
theorem up_lt {c x : Nat} (hc : c ≤ 16) (vt : Nat → Nat) : sN (gS' 1 c x vt) (2 ^ c) < 2 ^ 63 := by
  have hp : 2 ^ c ≤ 2 ^ 16 := Nat.pow_le_pow_right (by omega) hc
  have h1 : sN (gS' 1 c x vt) (2 ^ c) ≤ 2 ^ c * 20922789888000 := sN_bd (fun S _ => by
    unfold gS' swF
    have hz := sz_le c S
    split
    · omega
    · split
      · rw [if_neg (by omega), Nat.zero_add]
        exact Nat.le_trans (fac_le _ _) (fac_le16 (by omega))
      · omega)
  omega
theorem l_shareM {c x : Nat} (hc : c ≤ 16) (hx : x < c) {vt : Nat → Nat} (hv : ∀ e, e < c → vt e = 1 ∨ vt e = 9) {m : Mm} (h : swM m c vt) (what : Int32) : ∀ (k N S : Nat) (o : Prop), S + k = 2 ^ c → k < N → f_X12_share_31 N 225 (nI x) what (lN (sN (gS' 1 c x vt) S)) (nI S) m o = (if what = 0 then lN (sN (gS' 1 c x vt) (2 ^ c) / Nat.gcd (sN (gS' 1 c x vt) (2 ^ c)) (fac c)) else lN (fac c / Nat.gcd (sN (gS' 1 c x vt) (2 ^ c)) (fac c)), m, o) := by
  have hp : 2 ^ c ≤ 2 ^ 16 := Nat.pow_le_pow_right (by omega) hc
  intro k
  induction k with
  | zero =>
    intro N S o hS hN
    obtain ⟨N, rfl⟩ : ∃ N1, N = N1 + 1 := ⟨N - 1, by omega⟩
    show f_X12_share_31b (f_X12_share_31 N) 225 (nI x) what _ (nI S) m o = _
    have hu := up_lt (x := x) hc vt
    have ha := fac_le16 hc
    have h0 := fac_pos c
    obtain rfl : S = 2 ^ c := by omega
    generalize sN (gS' 1 c x vt) (2 ^ c) = up at hu ⊢
    have g0 : 0 < Nat.gcd up (fac c) := Nat.gcd_pos_of_pos_right _ h0
    have g1 : Nat.gcd up (fac c) ≤ fac c := Nat.gcd_le_right _ h0
    have n0 : ¬ lN (Nat.gcd up (fac c)) = 0 := fun z => absurd ((pk_lEQ (b := 0) (by omega) (by omega)).mp z) (by omega)
    unfold f_X12_share_31b
    rw [h.1.2.1, shl1 hc, if_pos (nI_le (Nat.le_refl _) (by omega))]
    simp (config := {decide := true}) only [shT_225 h.1.1, e_orders m hc, bnd, f_X12_share_92, e_divisor m hu (show fac c < 2 ^ 63 by omega), f_X12_share_100, f_X12_share_118, pk_lDiv hu g0 (show Nat.gcd up (fac c) < 2 ^ 63 by omega), pk_lDiv (show fac c < 2 ^ 63 by omega) g0 (show Nat.gcd up (fac c) < 2 ^ 63 by omega), n0, ne_eq, not_false_eq_true, and_self, and_true, true_and, and_false, false_and, true_or, or_true, false_or, or_false, not_true_eq_false, if_false, if_true]
    by_cases q : what = 0
    · rw [if_pos q, if_pos q]
    · rw [if_neg q, if_neg q]
  | succ k ih =>
    intro N S o hS hN
    obtain ⟨N, rfl⟩ : ∃ N1, N = N1 + 1 := ⟨N - 1, by omega⟩
    show f_X12_share_31b (f_X12_share_31 N) 225 (nI x) what _ (nI S) m o = _
    have step := ih N (S + 1) o (by omega) (by omega)
    have hs : sN (gS' 1 c x vt) (S + 1) = sN (gS' 1 c x vt) S + gS' 1 c x vt S := rfl
    rw [hs] at step
    obtain ⟨w1, w2⟩ := e_isSwing hc hx hv h (show S < 2 ^ c by omega)
    obtain ⟨g1, g2⟩ := gS_sw (d := 1) hx vt S
    unfold f_X12_share_31b
    rw [h.1.2.1, shl1 hc, if_neg (nI_ge (by omega) (by omega))]
    by_cases q : isSw c x vt S
    · rw [g1 q, if_neg (by omega)] at step
      have hz := sz_out q.1 c
      rw [if_pos hx] at hz
      simp (config := {decide := true}) only [shT_225 h.1.1, w1 q, bnd, f_X12_share_49, e_sizeM hc m (show S < 2 ^ c by omega), f_X12_share_58, e_orders m (show szN c S ≤ 16 by omega), f_X12_share_61, f_X12_share_72, h.1.2.1, nI_sub1 (show 0 < c by omega), pk_sub (show szN c S ≤ c - 1 by omega), e_orders m (show c - 1 - szN c S ≤ 16 by omega), f_X12_share_76, f_X12_share_79, lN_mul, lN_add, nI_1, ne_eq, not_false_eq_true, and_self, and_true, true_and, and_false, false_and, true_or, or_true, false_or, or_false, not_true_eq_false, if_false, if_true]
      exact step
    · rw [g2 q] at step
      simp (config := {decide := true}) only [shT_225 h.1.1, w2 q, bnd, f_X12_share_49, f_X12_share_79, nI_1, ne_eq, not_false_eq_true, and_self, and_true, true_and, and_false, false_and, true_or, or_true, false_or, or_false, not_true_eq_false, if_false, if_true]
      exact step
/-- votes of the cows, as both sides have them -/
theorem votes_of {m : Mm} (hR : Rel m) : ∃ (c : Nat) (vt : Nat → Nat), c ≤ 16 ∧ gI m 2 7 = nI c ∧ lvM m c vt ∧ (∀ e, e < c → vt e = 1 ∨ vt e = 9) ∧ ∀ e, e < c → gI m (33 + 2 * e) 2 = nI (vt e) ∧ (vt e = 1 ∨ vt e = 9) := by
  have h := hR.1
  obtain ⟨n, w, ⟨⟨hn, hw⟩, -, ⟨h7, h3⟩, -⟩, -, -, hC, -⟩ := hR.2.2.1
  have h3 : gI m 225 3 = nI w := h3
  have key : ∀ e, e < w → gI m 235 e = gI m (33 + 2 * e) 2 ∧ (gI m (33 + 2 * e) 2 = 1 ∨ gI m (33 + 2 * e) 2 = 9) := fun e he => by
    obtain ⟨⟨-, -, a3, -⟩, -, b2, -⟩ := hC e he
    rw [Nat.mul_zero, Nat.zero_add] at b2
    have i1 : 2 + 31 + 2 * e = 33 + 2 * e := by omega
    rw [i1] at a3 b2
    exact ⟨b2, a3⟩
  have v1 : ∀ e, e < w → gI m (33 + 2 * e) 2 = nI (if gI m (33 + 2 * e) 2 = 9 then 9 else 1) := fun e he => by
    rcases (key e he).2 with z | z
    · rw [z]; decide
    · rw [z]; decide
  have v2 : ∀ e, (if gI m (33 + 2 * e) 2 = 9 then 9 else 1) = 1 ∨ (if gI m (33 + 2 * e) 2 = 9 then 9 else 1) = 9 := fun e => by
    split
    · exact .inr rfl
    · exact .inl rfl
  refine ⟨w, fun e => if gI m (33 + 2 * e) 2 = 9 then 9 else 1, hw, h7, ⟨h, h3, fun e he => ?_⟩, fun e _ => v2 e, fun e he => ⟨v1 e he, v2 e⟩⟩
  rw [(key e he).1]
  exact v1 e he
theorem Rel_274 {m m' : Mm} (hR : Rel m) (hF : Fr (fun q _ => q = 274) m m') : Rel m' :=
  Rel_same hR (Fr_Sh hF hR.1) ⟨Fr_R hF 1 9, Fr_R hF 1 10⟩ (fun q i hq => Fr_at hF (by unfold inAny inNow inKept inTape inLaw at hq; omega))
theorem p_power : Pr_power Rel := fun a => PrI_ex (fun m hR => by
  have h := hR.1
  obtain ⟨w, vt, hw, h7, hl, hv, hc⟩ := votes_of hR
  by_cases qa : ∃ s, s < w ∧ a = nI s
  · obtain ⟨x, hx, rfl⟩ := qa
    have ra : (0 ≤ nI x ∧ nI x ≤ nI w - 1) = True := eq_true ((rng_n (by omega)).mpr ⟨x, hx, rfl⟩)
    obtain ⟨m', r1, r2, r3⟩ := e_lays hw hl
    have hsw : swM m' w vt := ⟨⟨Fr_Sh r2 h, by rw [Fr_at r2 (by omega)]; exact hl.2.1, fun e he => by rw [Fr_at r2 (by omega)]; exact hl.2.2 e he⟩, r3⟩
    refine ⟨nI (dbl (swF 0 (vt x) (w + 8 * c9 vt w) (w - 1)) (bulN vt x w) (cowN vt x w) 0 0), m, m', fun o => ?_, h, fun o => ?_, Rel_274 hR r2⟩
    · have hs := fun o => e_sumC h hw hx (d := 0) (by omega) h7 hc o
      rw [nI_0] at hs
      simp (config := {decide := true}) only [f_X11_power_22, f_X11_power_17, f_X11_power_5, f_X11_power_0, F_X11_power, bnd, e_hasCow _ h, h7, ra, bI_0, shT_1 h, shR_1_0 h, hs, lN_i, ne_eq, not_false_eq_true, and_self, and_true, true_and, and_false, false_and, true_or, or_true, false_or, or_false, not_true_eq_false, if_false, if_true]
    · have hp : 2 ^ w ≤ 2 ^ 16 := Nat.pow_le_pow_right (by omega) hw
      have hs := fun o => l_powerM hw hx hv hsw (2 ^ w) 70000 0 o (by omega) (by omega)
      rw [gS_dbl hv] at hs
      have z : nI (sN (gS' 0 w x vt) 0) = 0 := rfl
      rw [z, nI_0] at hs
      simp (config := {decide := true}) only [f_X12_power_43, f_X12_power_35, f_X12_power_14, f_X12_power_5, f_X12_power_0, F_X12_power, bnd, e_isCowM _ h, hl.2.1, ra, bI_0, shT_225 h, r1, hs, ne_eq, not_false_eq_true, and_self, and_true, true_and, and_false, false_and, true_or, or_true, false_or, or_false, not_true_eq_false, if_false, if_true]
  · have ra : (0 ≤ a ∧ a ≤ nI w - 1) = False := eq_false (fun z => qa ((rng_n (by omega)).mp z))
    refine ⟨-1, m, m, fun o => ?_, h, fun o => ?_, hR⟩
    · simp (config := {decide := true}) only [f_X11_power_22, f_X11_power_17, f_X11_power_5, f_X11_power_0, F_X11_power, bnd, e_hasCow _ h, h7, ra, bI_0, shT_1 h, ne_eq, not_false_eq_true, and_self, and_true, true_and, and_false, false_and, true_or, or_true, false_or, or_false, not_true_eq_false, if_false, if_true]
    · simp (config := {decide := true}) only [f_X12_power_43, f_X12_power_35, f_X12_power_14, f_X12_power_5, f_X12_power_0, F_X12_power, bnd, e_isCowM _ h, hl.2.1, ra, bI_0, shT_225 h, ne_eq, not_false_eq_true, and_self, and_true, true_and, and_false, false_and, true_or, or_true, false_or, or_false, not_true_eq_false, if_false, if_true])
theorem p_share : Pr_share Rel := fun a what => PrJ_ex (fun m hR => by
  have h := hR.1
  obtain ⟨w, vt, hw, h7, hl, hv, hc⟩ := votes_of hR
  have hlies := e_lies what 0 1
  rw [show Int32.toInt64 0 = 0 by decide, show Int32.toInt64 1 = 1 by decide] at hlies
  by_cases qa : ∃ s, s < w ∧ a = nI s
  · obtain ⟨x, hx, rfl⟩ := qa
    have ra : (0 ≤ nI x ∧ nI x ≤ nI w - 1) = True := eq_true ((rng_n (by omega)).mpr ⟨x, hx, rfl⟩)
    rcases Classical.propComplete (0 ≤ what ∧ what ≤ 1) with rb | rb
    · obtain ⟨m', r1, r2, r3⟩ := e_lays hw hl
      have hsw : swM m' w vt := ⟨⟨Fr_Sh r2 h, by rw [Fr_at r2 (by omega)]; exact hl.2.1, fun e he => by rw [Fr_at r2 (by omega)]; exact hl.2.2 e he⟩, r3⟩
      have hu := up_lt (x := x) hw vt
      have hp : 2 ^ w ≤ 2 ^ 16 := Nat.pow_le_pow_right (by omega) hw
      have hs2 := fun o => l_shareM hw hx hv hsw what (2 ^ w) 70000 0 o (by omega) (by omega)
      have hs := fun o => e_sumC h hw hx (d := 1) (by omega) h7 hc o
      rw [gS_dbl hv] at hs2 hu
      have z : lN (sN (gS' 1 w x vt) 0) = 0 := rfl
      rw [z, nI_0] at hs2
      have n1 : nI 1 = 1 := rfl
      rw [n1] at hs
      have hf := fac_le16 hw
      generalize dbl (swF 1 (vt x) (w + 8 * c9 vt w) (w - 1)) (bulN vt x w) (cowN vt x w) 0 0 = up at hs hs2 hu
      refine ⟨if what = 0 then lN (up / Nat.gcd up (fac w)) else lN (fac w / Nat.gcd up (fac w)), m, m', fun o => ?_, h, fun o => ?_, Rel_274 hR r2⟩
      · simp (config := {decide := true}) only [f_X11_share_17, f_X11_share_50, f_X11_share_41, f_X11_share_30, f_X11_share_14, f_X11_share_5, f_X11_share_0, F_X11_share, bnd, e_hasCow _ h, e_isWithin, h7, ra, rb, bI_0, shT_1 h, shR_1_0 h, shT_2 h, hs, e_factorial m hw, e_low m hu (show fac w < 2 ^ 63 by omega) (fac_pos w), ne_eq, not_false_eq_true, and_self, and_true, true_and, and_false, false_and, true_or, or_true, false_or, or_false, not_true_eq_false, if_false, if_true]
      · simp (config := {decide := true}) only [f_X12_share_18, f_X12_share_79, f_X12_share_76, f_X12_share_72, f_X12_share_61, f_X12_share_58, f_X12_share_49, f_X12_share_118, f_X12_share_100, f_X12_share_92, f_X12_share_26, f_X12_share_15, f_X12_share_5, f_X12_share_0, F_X12_share, bnd, e_isCowM _ h, hlies, hl.2.1, ra, rb, bI_0, shT_225 h, r1, hs2, ne_eq, not_false_eq_true, and_self, and_true, true_and, and_false, false_and, true_or, or_true, false_or, or_false, not_true_eq_false, if_false, if_true]
    · refine ⟨-1, m, m, fun o => ?_, h, fun o => ?_, hR⟩
      · simp (config := {decide := true}) only [f_X11_share_17, f_X11_share_50, f_X11_share_41, f_X11_share_30, f_X11_share_14, f_X11_share_5, f_X11_share_0, F_X11_share, bnd, e_hasCow _ h, e_isWithin, h7, ra, rb, bI_0, shT_1 h, ne_eq, not_false_eq_true, and_self, and_true, true_and, and_false, false_and, true_or, or_true, false_or, or_false, not_true_eq_false, if_false, if_true]
      · simp (config := {decide := true}) only [f_X12_share_18, f_X12_share_79, f_X12_share_76, f_X12_share_72, f_X12_share_61, f_X12_share_58, f_X12_share_49, f_X12_share_118, f_X12_share_100, f_X12_share_92, f_X12_share_26, f_X12_share_15, f_X12_share_5, f_X12_share_0, F_X12_share, bnd, e_isCowM _ h, hlies, hl.2.1, ra, rb, bI_0, shT_225 h, ne_eq, not_false_eq_true, and_self, and_true, true_and, and_false, false_and, true_or, or_true, false_or, or_false, not_true_eq_false, if_false, if_true]
  · have ra : (0 ≤ a ∧ a ≤ nI w - 1) = False := eq_false (fun z => qa ((rng_n (by omega)).mp z))
    refine ⟨-1, m, m, fun o => ?_, h, fun o => ?_, hR⟩
    · simp (config := {decide := true}) only [f_X11_share_17, f_X11_share_50, f_X11_share_41, f_X11_share_30, f_X11_share_14, f_X11_share_5, f_X11_share_0, F_X11_share, bnd, e_hasCow _ h, h7, ra, bI_0, shT_1 h, ne_eq, not_false_eq_true, and_self, and_true, true_and, and_false, false_and, true_or, or_true, false_or, or_false, not_true_eq_false, if_false, if_true]
    · simp (config := {decide := true}) only [f_X12_share_18, f_X12_share_79, f_X12_share_76, f_X12_share_72, f_X12_share_61, f_X12_share_58, f_X12_share_49, f_X12_share_118, f_X12_share_100, f_X12_share_92, f_X12_share_26, f_X12_share_15, f_X12_share_5, f_X12_share_0, F_X12_share, bnd, e_isCowM _ h, hl.2.1, ra, bI_0, shT_225 h, ne_eq, not_false_eq_true, and_self, and_true, true_and, and_false, false_and, true_or, or_true, false_or, or_false, not_true_eq_false, if_false, if_true])

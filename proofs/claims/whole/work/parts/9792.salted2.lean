/-! ===== salted: the other side's loops ===== -/
theorem l_sD {n nw : Nat} (hn : n ≤ 12) {st : Nat → Int32} {QM : Mm → Prop} (hQ : ∀ m, QM m → Sh m ∧ ∀ s, s < n → gI m 233 s = st s) {FF : Nat → Nat → Prop} (HF : ∀ m, QM m → ∀ s d, s < n → d < 10 → ∃ m', (∀ o, F_X12_fits 225 (nI s) (nI d) (nI nw) m o = (cI (FF s d), m', o)) ∧ QM m') {s : Nat} (hs : s < n) (hs0 : ¬ st s = 0) (x : Int32) (K : Nat → Int32 → Int32 → Int32 → Int32 → Int32 → Int32 → Mm → Prop → Int32 × Mm × Prop) : ∀ (k N d : Nat) (z : I3) (m : Mm), QM m → d + k = 10 → k < N → ∃ m', (∀ o, f_X12_salted_78 K N 225 (nI nw) x z.1 z.2.1 z.2.2 (nI s) (nI d) m o = K 225 (nI nw) x (gFD FF s k d z).1 (gFD FF s k d z).2.1 (gFD FF s k d z).2.2 (nI (s + 1)) m' o) ∧ QM m' := by
  intro k
  induction k with
  | zero =>
    intro N d z m hm hd hN
    obtain ⟨N, rfl⟩ : ∃ N1, N = N1 + 1 := ⟨N - 1, by omega⟩
    obtain rfl : d = 10 := by omega
    refine ⟨m, fun o => ?_, hm⟩
    show f_X12_salted_78b K (f_X12_salted_78 K N) 225 (nI nw) x z.1 z.2.1 z.2.2 (nI s) (nI 10) m o = _
    unfold f_X12_salted_78b f_X12_salted_131
    rw [if_pos (by decide), nI_1]
    rfl
  | succ k ih =>
    intro N d z m hm hd hN
    obtain ⟨N, rfl⟩ : ∃ N1, N = N1 + 1 := ⟨N - 1, by omega⟩
    obtain ⟨h, q1⟩ := hQ m hm
    have hle : ¬ (10 : Int32) ≤ nI d := (show ¬ (10 : Int32) ≤ nI (d) from nI_ge (a := d) (b := 10) (by omega) (by omega))
    have hin : vp_in (nI s) 12 := vp_in_nI (by omega) (by omega)
    have g7 := q1 s hs
    obtain ⟨m1, a1, a2⟩ := HF m hm s d hs (by omega)
    have pre : ∀ o, f_X12_salted_78b K (f_X12_salted_78 K N) 225 (nI nw) x z.1 z.2.1 z.2.2 (nI s) (nI d) m o = f_X12_salted_104 K (f_X12_salted_78 K N) 225 (nI nw) x z.1 z.2.1 z.2.2 (nI s) (nI d) (cI (FF s d)) m1 o := fun o => by
      unfold f_X12_salted_78b
      rw [if_neg hle]
      simp (config := {decide := true}) only [bnd, shT_225 h, shR_225_14 h, shT_233 h, shN_233 h, hin, ix_nI (show s < 2 ^ 31 by omega), g7, hs0, a1, ne_eq, not_false_eq_true, and_self, and_true, true_and, and_false, false_and, true_or, or_true, false_or, or_false, not_true_eq_false, if_false, if_true]
    by_cases q : FF s d
    · obtain ⟨m3, c1, c2⟩ := ih N (d + 1) (stp (FF s d) (nI s) (nI d) z) m1 a2 (by omega) (by omega)
      refine ⟨m3, fun o => ?_, c2⟩
      show f_X12_salted_78b K (f_X12_salted_78 K N) 225 (nI nw) x z.1 z.2.1 z.2.2 (nI s) (nI d) m o = _
      have ct : ¬ cI (FF s d) = 0 := fun z => absurd ((cI_t q).symm.trans z) (by decide)
      have e : ∀ o, f_X12_salted_78 K N 225 (nI nw) x (stp (FF s d) (nI s) (nI d) z).1 (stp (FF s d) (nI s) (nI d) z).2.1 (stp (FF s d) (nI s) (nI d) z).2.2 (nI s) (nI (d + 1)) m1 o = _ := c1
      rw [pre]
      refine Eq.trans ?_ (e o)
      unfold f_X12_salted_104 stp
      rw [if_neg ct, if_pos q]
      unfold f_X12_salted_122 f_X12_salted_125
      rw [nI_1]
      by_cases q0 : z.1 = 0
      · rw [if_pos q0, if_pos q0]
      · rw [if_neg q0, if_neg q0]
    · obtain ⟨m3, c1, c2⟩ := ih N (d + 1) z m1 a2 (by omega) (by omega)
      refine ⟨m3, fun o => ?_, c2⟩
      have eg : gFD FF s (k + 1) d z = gFD FF s k (d + 1) z := by
        show gFD FF s k (d + 1) (stp (FF s d) (nI s) (nI d) z) = _
        unfold stp
        rw [if_neg q]
      show f_X12_salted_78b K (f_X12_salted_78 K N) 225 (nI nw) x z.1 z.2.1 z.2.2 (nI s) (nI d) m o = _
      rw [pre, eg]
      unfold f_X12_salted_104 f_X12_salted_125
      rw [if_pos (cI_f q), nI_1]
      exact c1 o
def selF (x : Int32) (z : I3) : Int32 := if x = 0 then z.1 else if x = 1 then z.2.1 else z.2.2
theorem l_sS {n nw : Nat} (hn : n ≤ 12) {st : Nat → Int32} {QM : Mm → Prop} (hQ : ∀ m, QM m → Sh m ∧ ∀ s, s < n → gI m 233 s = st s) (hQ2 : ∀ m, QM m → gI m 225 2 = nI n) {FF : Nat → Nat → Prop} (HF : ∀ m, QM m → ∀ s d, s < n → d < 10 → ∃ m', (∀ o, F_X12_fits 225 (nI s) (nI d) (nI nw) m o = (cI (FF s d), m', o)) ∧ QM m') {F0 : Prop} (H0 : ∀ m, QM m → ∃ m', (∀ o, F_X12_fits 225 (-1) 0 (nI nw) m o = (cI F0, m', o)) ∧ QM m') (x : Int32) : ∀ (k N s : Nat) (z : I3) (m : Mm), QM m → s + k = n → k < N → ∃ m', (∀ o, f_X12_salted_66 N 225 (nI nw) x z.1 z.2.1 z.2.2 (nI s) m o = (selF x (stp F0 12 12 (gFS st FF k s z)), m', o)) ∧ QM m' := by
  intro k
  induction k with
  | zero =>
    intro N s z m hm hs hN
    obtain ⟨N, rfl⟩ : ∃ N1, N = N1 + 1 := ⟨N - 1, by omega⟩
    obtain rfl : s = n := by omega
    obtain ⟨h, q1⟩ := hQ m hm
    have g2 := hQ2 m hm
    obtain ⟨m1, a1, a2⟩ := H0 m hm
    refine ⟨m1, fun o => ?_, a2⟩
    show f_X12_salted_66b (f_X12_salted_66 N) 225 (nI nw) x z.1 z.2.1 z.2.2 (nI s) m o = _
    have pre : f_X12_salted_66b (f_X12_salted_66 N) 225 (nI nw) x z.1 z.2.1 z.2.2 (nI s) m o = f_X12_salted_144 x z.1 z.2.1 z.2.2 (cI F0) m1 o := by
      unfold f_X12_salted_66b
      simp (config := {decide := true}) only [bnd, shT_225 h, g2, Int32.le_refl, a1, ne_eq, not_false_eq_true, and_self, and_true, true_and, and_false, false_and, true_or, or_true, false_or, or_false, not_true_eq_false, if_false, if_true]
    rw [pre]
    unfold f_X12_salted_144 gFS stp
    have sel : ∀ (a b c : Int32), f_X12_salted_162 x a b c m1 o = (selF x (a, b, c), m1, o) := fun a b c => by
      unfold f_X12_salted_162 f_X12_salted_182 selF
      by_cases q0 : x = 0
      · rw [if_pos q0, if_pos q0]
      · rw [if_neg q0, if_neg q0]
        by_cases q1 : x = 1
        · rw [if_pos q1, if_pos q1]
        · rw [if_neg q1, if_neg q1]
    by_cases q : F0
    · have ct : ¬ cI F0 = 0 := fun z => absurd ((cI_t q).symm.trans z) (by decide)
      rw [if_neg ct, if_pos q]
      unfold f_X12_salted_159
      by_cases q0 : z.1 = 0
      · rw [if_pos q0, if_pos q0, sel]
      · rw [if_neg q0, if_neg q0, sel]
    · rw [if_pos (cI_f q), if_neg q, sel]
  | succ k ih =>
    intro N s z m hm hs hN
    obtain ⟨N, rfl⟩ : ∃ N1, N = N1 + 1 := ⟨N - 1, by omega⟩
    obtain ⟨h, q1⟩ := hQ m hm
    have g2 := hQ2 m hm
    have hle : ¬ nI n ≤ nI s := nI_ge (by omega) (by omega)
    have hin : vp_in (nI s) 12 := vp_in_nI (by omega) (by omega)
    have g7 := q1 s (by omega)
    have pre : ∀ o, f_X12_salted_66b (f_X12_salted_66 N) 225 (nI nw) x z.1 z.2.1 z.2.2 (nI s) m o = f_X12_salted_78 (f_X12_salted_66 N) 1000 225 (nI nw) x z.1 z.2.1 z.2.2 (nI s) 0 m o := fun o => by
      unfold f_X12_salted_66b
      simp (config := {decide := true}) only [shT_225 h, g2, hle, ne_eq, not_false_eq_true, and_self, and_true, true_and, and_false, false_and, true_or, or_true, false_or, or_false, not_true_eq_false, if_false, if_true]
    by_cases q : st s = 0
    · obtain ⟨m1, a1, a2⟩ := ih N (s + 1) z m hm (by omega) (by omega)
      refine ⟨m1, fun o => ?_, a2⟩
      show f_X12_salted_66b (f_X12_salted_66 N) 225 (nI nw) x z.1 z.2.1 z.2.2 (nI s) m o = _
      rw [pre]
      have eg : gFS st FF (k + 1) s z = gFS st FF k (s + 1) z := by
        show gFS st FF k (s + 1) (if st s = 0 then z else gFD FF s 10 0 z) = _
        rw [if_pos q]
      rw [eg]
      show f_X12_salted_78b (f_X12_salted_66 N) (f_X12_salted_78 (f_X12_salted_66 N) 999) 225 (nI nw) x z.1 z.2.1 z.2.2 (nI s) 0 m o = _
      unfold f_X12_salted_78b f_X12_salted_131
      rw [if_neg (by decide)]
      simp (config := {decide := true}) only [shT_225 h, shR_225_14 h, shT_233 h, shN_233 h, hin, ix_nI (show s < 2 ^ 31 by omega), g7, q, nI_1, ne_eq, not_false_eq_true, and_self, and_true, true_and, and_false, false_and, true_or, or_true, false_or, or_false, not_true_eq_false, if_false, if_true]
      exact a1 o
    · obtain ⟨m1, a1, a2⟩ := l_sD hn hQ HF (show s < n by omega) q x (f_X12_salted_66 N) 10 1000 0 z m hm (by omega) (by omega)
      obtain ⟨m2, b1, b2⟩ := ih N (s + 1) (gFD FF s 10 0 z) m1 a2 (by omega) (by omega)
      rw [nI_0] at a1
      refine ⟨m2, fun o => ?_, b2⟩
      show f_X12_salted_66b (f_X12_salted_66 N) 225 (nI nw) x z.1 z.2.1 z.2.2 (nI s) m o = _
      have eg : gFS st FF (k + 1) s z = gFS st FF k (s + 1) (gFD FF s 10 0 z) := by
        show gFS st FF k (s + 1) (if st s = 0 then z else gFD FF s 10 0 z) = _
        rw [if_neg q]
      rw [pre, a1, eg]
      exact b1 o

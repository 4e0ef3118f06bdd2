/-! ===== odds of burning: both sides ===== -/
def FrL (P : Nat → Nat → Prop) (m m' : Mm) : Prop := m'.1 = m.1 ∧ m'.2.2 = m.2.2 ∧ ∀ q i, ¬ P q i → gL m' q i = gL m q i
theorem FrL_refl (P : Nat → Nat → Prop) (m : Mm) : FrL P m m := ⟨rfl, rfl, fun _ _ _ => rfl⟩
theorem FrL_trans {P : Nat → Nat → Prop} {m m1 m2 : Mm} (h1 : FrL P m m1) (h2 : FrL P m1 m2) : FrL P m m2 := ⟨h2.1.trans h1.1, h2.2.1.trans h1.2.1, fun q i z => (h2.2.2 q i z).trans (h1.2.2 q i z)⟩
theorem FrL_mono {P Q : Nat → Nat → Prop} {m m' : Mm} (h : FrL P m m') (hPQ : ∀ q i, P q i → Q q i) : FrL Q m m' := ⟨h.1, h.2.1, fun q i z => h.2.2 q i (fun y => z (hPQ q i y))⟩
theorem FrL_sL {P : Nat → Nat → Prop} {m : Mm} {q i : Nat} (hP : P q i) (v : Int64) : FrL P m (sL m q i v) := ⟨rfl, rfl, fun x y z => by
  rw [gL_sL, if_neg]
  rintro ⟨rfl, rfl⟩
  exact z hP⟩
theorem FrL_Sh {P : Nat → Nat → Prop} {m m' : Mm} (h : FrL P m m') (hS : Sh m) : Sh m' := by
  unfold Sh gT gN gR gC gS at hS ⊢
  rw [h.2.1]
  exact hS
theorem FrL_I {P : Nat → Nat → Prop} {m m' : Mm} (h : FrL P m m') (q i : Nat) : gI m' q i = gI m q i := by unfold gI; rw [h.1]
theorem FrL_R {P : Nat → Nat → Prop} {m m' : Mm} (h : FrL P m m') (q i : Nat) : gR m' q i = gR m q i := by unfold gR; rw [h.2.1]
theorem lN_sl {a e b c : Nat} (h : a + e = b + c) : lN a + (lN e - lN c) = lN b := by
  rw [Int64.sub_eq_add_neg, ← Int64.add_assoc, lN_add, h, ← Int64.sub_eq_add_neg, lN_sub (by omega), Nat.add_sub_cancel]
theorem mx0 {x : Nat} (hx : x < 2 ^ 31) : (if (0 : Int32) < nI x then nI x else 0) = nI x := by
  have c : ((0 : Int32) < nI x) = (0 < x) := propext (nI_ltI (a := 0) (by omega) hx)
  simp only [c]
  by_cases q : 0 < x
  · rw [if_pos q]
  · rw [if_neg q, show x = 0 by omega]
    rfl
theorem l_add2 {k T : Nat} (hk : k ≤ 30) (hT : T ≤ 360) (f : Nat → Nat) : ∀ (s N : Nat) (m : Mm), Sh m → s ≤ T → s + 1 < N → (∀ t, t ≤ s → gL m 204 t = lN (f t)) → (∀ t, s < t → t ≤ T → gL m 204 t = lN (wd f k t)) → ∃ m', (∀ o, f_X6_addDay_45 N 203 (nI k) (lN (wd f k s)) (nI s) m o = ((), m', o)) ∧ FrL (fun q _ => q = 204) m m' ∧ ∀ t, t ≤ T → gL m' 204 t = lN (wd f k t) := by
  intro s
  induction s with
  | zero =>
    intro N m h hs hN h1 h2
    obtain ⟨N, rfl⟩ : ∃ N1, N = N1 + 1 := ⟨N - 1, by omega⟩
    obtain ⟨N, rfl⟩ : ∃ N1, N = N1 + 1 := ⟨N - 1, by omega⟩
    refine ⟨sL m 204 0 (lN (wd f k 0)), fun o => ?_, FrL_sL (P := fun q _ => q = 204) (by rfl) _, fun t ht => ?_⟩
    · have i0 : vp_in (nI 0) 361 := vp_in_nI (by omega) (by omega)
      have e1 : nI 0 - nI k - 1 < 0 := by
        rw [Int32.lt_iff_toInt_lt]
        have a1 : (nI 0 - nI k).toInt = (0 : Int) - k := pk_sub_toInt (by omega) (by omega)
        have a2 : (nI 0 - nI k - 1).toInt = (nI 0 - nI k).toInt - (1 : Int32).toInt := fb_subI (by rw [a1, show (1 : Int32).toInt = 1 by decide]; omega) (by rw [a1, show (1 : Int32).toInt = 1 by decide]; omega)
        rw [a2, a1, show (1 : Int32).toInt = 1 by decide, show (0 : Int32).toInt = 0 by decide]
        omega
      have e2 : nI 0 + (-1) < 0 := by decide
      have n0 : ¬ nI 0 < 0 := by decide
      show f_X6_addDay_45b (f_X6_addDay_45 (N + 1)) 203 (nI k) _ (nI 0) m o = _
      unfold f_X6_addDay_45b
      rw [if_neg n0]
      unfold f_X6_addDay_75
      rw [if_pos e1]
      unfold f_X6_addDay_92
      show f_X6_addDay_45b (f_X6_addDay_45 N) 203 (nI k) _ (nI 0 + (-1)) _ _ = _
      unfold f_X6_addDay_45b
      rw [if_pos e2]
      simp (config := {decide := true}) only [shT_203 h, shR_203_0 h, shT_204 h, shN_204 h, i0, ix_nI (show 0 < 2 ^ 31 by omega), ne_eq, not_false_eq_true, and_self, and_true, true_and, and_false, false_and, true_or, or_true, false_or, or_false, not_true_eq_false, if_false, if_true]
    · rw [gL_sL]
      by_cases q : t = 0
      · rw [if_pos ⟨rfl, q⟩, q]
      · rw [if_neg (fun z => q z.2)]
        exact h2 t (by omega) ht
  | succ s ih =>
    intro N m h hs hN h1 h2
    obtain ⟨N, rfl⟩ : ∃ N1, N = N1 + 1 := ⟨N - 1, by omega⟩
    have i1 : vp_in (nI (s + 1)) 361 := vp_in_nI (by omega) (by omega)
    have n0 : ¬ nI (s + 1) < 0 := fun z => absurd ((nI_ltI (b := 0) (by omega) (by omega)).mp z) (by omega)
    obtain ⟨m', r1, r2, r3⟩ := ih N (sL m 204 (s + 1) (lN (wd f k (s + 1)))) (Sh_sL h _ _ _) (by omega) (by omega) (fun t ht => by rw [gL_sL, if_neg (by omega)]; exact h1 t (by omega)) (fun t ht1 ht2 => by
      rw [gL_sL]
      by_cases q : t = s + 1
      · rw [if_pos ⟨rfl, q⟩, q]
      · rw [if_neg (fun z => q z.2)]
        exact h2 t (by omega) ht2)
    refine ⟨m', fun o => ?_, FrL_trans (FrL_sL (P := fun q _ => q = 204) (by rfl) _) r2, r3⟩
    have sl := wd_slide f k s
    show f_X6_addDay_45b (f_X6_addDay_45 N) 203 (nI k) _ (nI (s + 1)) m o = _
    unfold f_X6_addDay_45b
    rw [if_neg n0]
    unfold f_X6_addDay_75 f_X6_addDay_92
    rw [pk_m1]
    by_cases q : k + 1 ≤ s + 1
    · rw [if_pos q] at sl
      have e1 : nI (s + 1) - nI k - 1 = nI (s + 1 - (k + 1)) := by
        rw [pk_sub (by omega), nI_sub1 (by omega), show s + 1 - k - 1 = s + 1 - (k + 1) by omega]
      have n1 : ¬ nI (s + 1 - (k + 1)) < 0 := fun z => absurd ((nI_ltI (b := 0) (by omega) (by omega)).mp z) (by omega)
      have i2 : vp_in (nI (s + 1 - (k + 1))) 361 := vp_in_nI (by omega) (by omega)
      rw [e1, if_neg n1]
      simp (config := {decide := true}) only [gT_sL, gN_sL, gR_sL, gL_sL, shT_203 h, shR_203_0 h, shT_204 h, shN_204 h, i1, i2, ix_nI (show s + 1 < 2 ^ 31 by omega), ix_nI (show s + 1 - (k + 1) < 2 ^ 31 by omega), h1 (s + 1) (Nat.le_refl _), h1 (s + 1 - (k + 1)) (show s + 1 - (k + 1) ≤ s + 1 by omega), if_neg (show ¬ (s + 1 - (k + 1) = s + 1) by omega), lN_sl sl, r1, ne_eq, not_false_eq_true, and_self, and_true, true_and, and_false, false_and, true_or, or_true, false_or, or_false, not_true_eq_false, if_false, if_true]
    · rw [if_neg q] at sl
      have e1 : nI (s + 1) - nI k - 1 < 0 := by
        rw [Int32.lt_iff_toInt_lt]
        have a1 : (nI (s + 1) - nI k).toInt = ((s + 1 : Nat) : Int) - k := pk_sub_toInt (by omega) (by omega)
        have a2 : (nI (s + 1) - nI k - 1).toInt = (nI (s + 1) - nI k).toInt - (1 : Int32).toInt := fb_subI (by rw [a1, show (1 : Int32).toInt = 1 by decide]; omega) (by rw [a1, show (1 : Int32).toInt = 1 by decide]; omega)
        rw [a2, a1, show (1 : Int32).toInt = 1 by decide, show (0 : Int32).toInt = 0 by decide]
        omega
      have sl0 : lN (wd f k (s + 1)) + (0 - lN (f (s + 1))) = lN (wd f k s) := lN_sl (e := 0) sl
      rw [if_pos e1]
      simp (config := {decide := true}) only [gT_sL, gN_sL, gR_sL, gL_sL, shT_203 h, shR_203_0 h, shT_204 h, shN_204 h, i1, ix_nI (show s + 1 < 2 ^ 31 by omega), h1 (s + 1) (Nat.le_refl _), sl0, r1, ne_eq, not_false_eq_true, and_self, and_true, true_and, and_false, false_and, true_or, or_true, false_or, or_false, not_true_eq_false, if_false, if_true]
theorem l_add1 {k T : Nat} (hkT : k ≤ T) (hT : T ≤ 360) (f : Nat → Nat) {m : Mm} (h : Sh m) (h1 : gI m 203 1 = nI T) (hf : ∀ t, t ≤ T → gL m 204 t = lN (f t)) : ∀ (c N i : Nat) (o : Prop), i + c = k + 1 → c < N → f_X6_addDay_14 N 203 (nI k) (lN (sN (fun i => f (T - k + i)) i)) (nI (T - k + i)) m o = f_X6_addDay_45 1000 203 (nI k) (lN (wd f k T)) (nI T) m o := by
  intro c
  induction c with
  | zero =>
    intro N i o hi hN
    obtain ⟨N, rfl⟩ : ∃ N1, N = N1 + 1 := ⟨N - 1, by omega⟩
    show f_X6_addDay_14b (f_X6_addDay_14 N) 203 (nI k) _ (nI (T - k + i)) m o = _
    unfold f_X6_addDay_14b
    rw [h1, if_pos (nI_lt (by omega) (by omega)), show i = k + 1 by omega, wd_top f hkT]
    simp (config := {decide := true}) only [shT_203 h, ne_eq, not_false_eq_true, and_self, and_true, true_and, and_false, false_and, true_or, or_true, false_or, or_false, not_true_eq_false, if_false, if_true]
  | succ c ih =>
    intro N i o hi hN
    obtain ⟨N, rfl⟩ : ∃ N1, N = N1 + 1 := ⟨N - 1, by omega⟩
    have i1 : vp_in (nI (T - k + i)) 361 := vp_in_nI (by omega) (by omega)
    show f_X6_addDay_14b (f_X6_addDay_14 N) 203 (nI k) _ (nI (T - k + i)) m o = _
    unfold f_X6_addDay_14b
    rw [h1, if_neg (fun z => absurd ((nI_ltI (by omega) (by omega)).mp z) (by omega))]
    have step := ih N (i + 1) o (by omega) (by omega)
    have hs : sN (fun i => f (T - k + i)) (i + 1) = sN (fun i => f (T - k + i)) i + f (T - k + i) := rfl
    rw [hs] at step
    simp (config := {decide := true}) only [shT_203 h, shR_203_0 h, shT_204 h, shN_204 h, i1, ix_nI (show T - k + i < 2 ^ 31 by omega), hf (T - k + i) (show T - k + i ≤ T by omega), lN_add, nI_1, ne_eq, not_false_eq_true, and_self, and_true, true_and, and_false, false_and, true_or, or_true, false_or, or_false, not_true_eq_false, if_false, if_true]
    exact step
theorem e_addDay {k T : Nat} (hk : k ≤ 30) (hkT : k ≤ T) (hT : T ≤ 360) (f : Nat → Nat) {m : Mm} (h : Sh m) (h1 : gI m 203 1 = nI T) (hf : ∀ t, t ≤ T → gL m 204 t = lN (f t)) : ∃ m', (∀ o, F_X6_addDay 203 (nI k) m o = ((), m', o)) ∧ FrL (fun q _ => q = 204) m m' ∧ ∀ t, t ≤ T → gL m' 204 t = lN (wd f k t) := by
  obtain ⟨m', r1, r2, r3⟩ := l_add2 hk hT f T 1000 m h (Nat.le_refl _) (by omega) hf (fun t a b => by omega)
  refine ⟨m', fun o => ?_, r2, r3⟩
  have e1 : (if (0 : Int32) < nI T - nI k then nI T - nI k else 0) = nI (T - k) := by
    rw [pk_sub hkT]
    exact mx0 (by omega)
  have a := fun o => l_add1 hkT hT f h h1 hf (k + 1) 1000 0 o (by omega) (by omega)
  have z : lN (sN (fun i => f (T - k + i)) 0) = 0 := rfl
  rw [z, Nat.add_zero] at a
  simp (config := {decide := true}) only [F_X6_addDay, f_X6_addDay_0, shT_203 h, h1, e1, a, r1, ne_eq, not_false_eq_true, and_self, and_true, true_and, and_false, false_and, true_or, or_true, false_or, or_false, not_true_eq_false, if_false, if_true]
theorem l_throw {n k T : Nat} (hk : k ≤ 30) (hkT : k ≤ T) (hT : T ≤ 360) (hn : n ≤ 12) : ∀ (c N d : Nat) (m : Mm), Sh m → gI m 203 1 = nI T → d + c = n → c < N → gL m 203 2 = lN ((k + 1) ^ d) → (∀ t, t ≤ T → gL m 204 t = lN (wy k d t)) → ∃ m', (∀ o, f_X6_throwDays_44 N 203 (nI n) (nI k) (nI d) m o = ((), m', o)) ∧ FrL (fun q _ => q = 203 ∨ q = 204) m m' ∧ gL m' 203 2 = lN ((k + 1) ^ n) ∧ ∀ t, t ≤ T → gL m' 204 t = lN (wy k n t) := by
  intro c
  induction c with
  | zero =>
    intro N d m h h1 hd hN ha hw
    obtain ⟨N, rfl⟩ : ∃ N1, N = N1 + 1 := ⟨N - 1, by omega⟩
    obtain rfl : d = n := by omega
    refine ⟨m, fun o => ?_, FrL_refl _ _, ha, hw⟩
    show f_X6_throwDays_44b (f_X6_throwDays_44 N) 203 (nI d) (nI k) (nI d) m o = _
    unfold f_X6_throwDays_44b
    rw [if_pos (nI_le (Nat.le_refl _) (by omega))]
  | succ c ih =>
    intro N d m h h1 hd hN ha hw
    obtain ⟨N, rfl⟩ : ∃ N1, N = N1 + 1 := ⟨N - 1, by omega⟩
    obtain ⟨m1, a1, a2, a3⟩ := e_addDay hk hkT hT (wy k d) (m := sL m 203 2 (lN ((k + 1) ^ (d + 1)))) (Sh_sL h _ _ _) h1 (fun t ht => by rw [gL_sL, if_neg (by omega)]; exact hw t ht)
    have hF : FrL (fun q _ => q = 203 ∨ q = 204) m m1 := FrL_trans (FrL_sL (P := fun q _ => q = 203 ∨ q = 204) (.inl rfl) _) (FrL_mono a2 (fun q i z => .inr z))
    obtain ⟨m', b1, b2, b3, b4⟩ := ih N (d + 1) m1 (FrL_Sh hF h) (by rw [FrL_I hF]; exact h1) (by omega) (by omega) (by rw [a2.2.2 203 2 (by omega), gL_sL, if_pos ⟨rfl, rfl⟩]) a3
    refine ⟨m', fun o => ?_, FrL_trans hF b2, b3, b4⟩
    have e1 : lN ((k + 1) ^ d) * Int32.toInt64 (nI k + 1) = lN ((k + 1) ^ (d + 1)) := by
      rw [nI_1, nI_l (by omega), lN_mul, Nat.pow_succ]
    show f_X6_throwDays_44b (f_X6_throwDays_44 N) 203 (nI n) (nI k) (nI d) m o = _
    unfold f_X6_throwDays_44b
    rw [if_neg (nI_ge (by omega) (by omega)), ha, e1]
    unfold f_X6_throwDays_62
    rw [a1, bnd_mk]
    unfold f_X6_throwDays_67
    rw [nI_1, b1]
    simp (config := {decide := true}) only [gT_sL, shT_203 h, ne_eq, not_false_eq_true, and_self, and_true, true_and, and_false, false_and, true_or, or_true, false_or, or_false, not_true_eq_false, if_false, if_true]
theorem l_zero {n k T : Nat} (hT : T ≤ 360) : ∀ (c N s : Nat) (m : Mm), Sh m → gI m 203 1 = nI T → s + c = T + 1 → 1 ≤ s → c < N → (∀ t, t < s → gL m 204 t = lN (wy k 0 t)) → ∃ m', (∀ o, f_X6_throwDays_21 N 203 (nI n) (nI k) (nI s) m o = f_X6_throwDays_44 1000 203 (nI n) (nI k) 0 m' o) ∧ FrL (fun q _ => q = 204) m m' ∧ ∀ t, t ≤ T → gL m' 204 t = lN (wy k 0 t) := by
  intro c
  induction c with
  | zero =>
    intro N s m h h1 hs h0 hN hw
    obtain ⟨N, rfl⟩ : ∃ N1, N = N1 + 1 := ⟨N - 1, by omega⟩
    refine ⟨m, fun o => ?_, FrL_refl _ _, fun t ht => hw t (by omega)⟩
    show f_X6_throwDays_21b (f_X6_throwDays_21 N) 203 (nI n) (nI k) (nI s) m o = _
    unfold f_X6_throwDays_21b
    rw [h1, if_pos (nI_lt (by omega) (by omega))]
    simp (config := {decide := true}) only [shT_203 h, ne_eq, not_false_eq_true, and_self, and_true, true_and, and_false, false_and, true_or, or_true, false_or, or_false, not_true_eq_false, if_false, if_true]
  | succ c ih =>
    intro N s m h h1 hs h0 hN hw
    obtain ⟨N, rfl⟩ : ∃ N1, N = N1 + 1 := ⟨N - 1, by omega⟩
    have i1 : vp_in (nI s) 361 := vp_in_nI (by omega) (by omega)
    obtain ⟨m', b1, b2, b3⟩ := ih N (s + 1) (sL m 204 s 0) (Sh_sL h _ _ _) h1 (by omega) (by omega) (by omega) (fun t ht => by
      rw [gL_sL]
      by_cases q : t = s
      · rw [if_pos ⟨rfl, q⟩]
        show _ = lN (if t = 0 then 1 else 0)
        rw [if_neg (by omega)]
        rfl
      · rw [if_neg (fun z => q z.2)]
        exact hw t (by omega))
    refine ⟨m', fun o => ?_, FrL_trans (FrL_sL (P := fun q _ => q = 204) (by rfl) _) b2, b3⟩
    show f_X6_throwDays_21b (f_X6_throwDays_21 N) 203 (nI n) (nI k) (nI s) m o = _
    unfold f_X6_throwDays_21b f_X6_throwDays_36
    rw [h1, if_neg (fun z => absurd ((nI_ltI (by omega) (by omega)).mp z) (by omega))]
    simp (config := {decide := true}) only [shT_203 h, shR_203_0 h, shT_204 h, shN_204 h, i1, ix_nI (show s < 2 ^ 31 by omega), nI_1, b1, ne_eq, not_false_eq_true, and_self, and_true, true_and, and_false, false_and, true_or, or_true, false_or, or_false, not_true_eq_false, if_false, if_true]
theorem e_throw {n k : Nat} (hk : k ≤ 30) (hn0 : 1 ≤ n) (hn : n ≤ 12) {m : Mm} (h : Sh m) : ∃ m', (∀ o, F_X6_throwDays 203 (nI n) (nI k) m o = ((), m', o)) ∧ FrL (fun q _ => q = 203 ∨ q = 204) (sI m 203 1 (nI (n * k))) m' ∧ gL m' 203 2 = lN ((k + 1) ^ n) ∧ ∀ t, t ≤ n * k → gL m' 204 t = lN (wy k n t) := by
  have hT : n * k ≤ 12 * 30 := Nat.mul_le_mul hn hk
  have hkT : 1 * k ≤ n * k := Nat.mul_le_mul_right k hn0
  have F0 : FrL (fun q _ => q = 203 ∨ q = 204) (sI m 203 1 (nI (n * k))) (sL (sL (sI m 203 1 (nI (n * k))) 203 2 1) 204 0 1) := FrL_trans (FrL_sL (P := fun q _ => q = 203 ∨ q = 204) (.inl rfl) _) (FrL_sL (P := fun q _ => q = 203 ∨ q = 204) (.inr rfl) _)
  have S0 := FrL_Sh F0 (Sh_sI h _ _ _)
  have I0 : gI (sL (sL (sI m 203 1 (nI (n * k))) 203 2 1) 204 0 1) 203 1 = nI (n * k) := by
    rw [FrL_I F0, gI_sI, if_pos ⟨rfl, rfl⟩]
  obtain ⟨m1, a1, a2, a3⟩ := l_zero (n := n) (k := k) (T := n * k) (by omega) (n * k) 1000 1 _ S0 I0 (by omega) (by omega) (by omega) (fun t ht => by
    rw [gL_sL, if_pos ⟨rfl, by omega⟩, show t = 0 by omega]
    rfl)
  obtain ⟨m', b1, b2, b3, b4⟩ := l_throw (n := n) hk (by omega) (show n * k ≤ 360 by omega) hn n 1000 0 m1 (FrL_Sh a2 S0) (by rw [FrL_I a2]; exact I0) (by omega) (by omega) (by
    rw [a2.2.2 203 2 (by omega), gL_sL, if_neg (by omega), gL_sL, if_pos ⟨rfl, rfl⟩]
    rfl) a3
  refine ⟨m', fun o => ?_, FrL_trans F0 (FrL_trans (FrL_mono a2 (fun q i z => .inr z)) b2), b3, b4⟩
  rw [nI_0] at b1
  have n1 : nI 1 = 1 := rfl
  rw [n1] at a1
  have i0 : vp_in 0 361 := vp_in_nI (n := 0) (by omega) (by omega)
  have x0 : ix 0 = 0 := ix_nI (i := 0) (by omega)
  simp (config := {decide := true}) only [F_X6_throwDays, f_X6_throwDays_0, f_X6_throwDays_7, f_X6_throwDays_12, f_X6_throwDays_19, pk_mul, gT_sI, gR_sI, gN_sI, gT_sL, gR_sL, gN_sL, shT_203 h, shR_203_0 h, shT_204 h, shN_204 h, i0, x0, a1, b1, ne_eq, not_false_eq_true, and_self, and_true, true_and, and_false, false_and, true_or, or_true, false_or, or_false, not_true_eq_false, if_false, if_true]
theorem l_atLeast {m : Mm} (h : Sh m) {T need : Nat} (hT : T ≤ 360) (hneed : need ≤ 500) (h1 : gI m 203 1 = nI T) {f : Nat → Nat} (hf : ∀ t, t ≤ T → gL m 204 t = lN (f t)) : ∀ (c N j : Nat) (o : Prop), j + c = T + 1 - need → c < N → f_X6_atLeast_9 N 203 (lN (sN (fun i => f (need + i)) j)) (nI (need + j)) m o = (lN (sN (fun i => f (need + i)) (T + 1 - need)), m, o) := by
  intro c
  induction c with
  | zero =>
    intro N j o hj hN
    obtain ⟨N, rfl⟩ : ∃ N1, N = N1 + 1 := ⟨N - 1, by omega⟩
    show f_X6_atLeast_9b (f_X6_atLeast_9 N) 203 _ (nI (need + j)) m o = _
    unfold f_X6_atLeast_9b
    rw [h1, if_pos (nI_lt (by omega) (by omega)), show j = T + 1 - need by omega]
    simp (config := {decide := true}) only [shT_203 h, ne_eq, not_false_eq_true, and_self, and_true, true_and, and_false, false_and, true_or, or_true, false_or, or_false, not_true_eq_false, if_false, if_true]
  | succ c ih =>
    intro N j o hj hN
    obtain ⟨N, rfl⟩ : ∃ N1, N = N1 + 1 := ⟨N - 1, by omega⟩
    have i1 : vp_in (nI (need + j)) 361 := vp_in_nI (by omega) (by omega)
    show f_X6_atLeast_9b (f_X6_atLeast_9 N) 203 _ (nI (need + j)) m o = _
    unfold f_X6_atLeast_9b
    rw [h1, if_neg (fun z => absurd ((nI_ltI (by omega) (by omega)).mp z) (by omega))]
    have step := ih N (j + 1) o (by omega) (by omega)
    have hs : sN (fun i => f (need + i)) (j + 1) = sN (fun i => f (need + i)) j + f (need + j) := rfl
    rw [hs] at step
    simp (config := {decide := true}) only [shT_203 h, shR_203_0 h, shT_204 h, shN_204 h, i1, ix_nI (show need + j < 2 ^ 31 by omega), hf (need + j) (show need + j ≤ T by omega), lN_add, nI_1, ne_eq, not_false_eq_true, and_self, and_true, true_and, and_false, false_and, true_or, or_true, false_or, or_false, not_true_eq_false, if_false, if_true]
    exact step
theorem e_atLeast {m : Mm} (h : Sh m) {T need : Nat} (hT : T ≤ 360) (hneed : need ≤ 500) (h1 : gI m 203 1 = nI T) {f : Nat → Nat} (hf : ∀ t, t ≤ T → gL m 204 t = lN (f t)) (o : Prop) : F_X6_atLeast 203 (nI need) m o = (lN (sN (fun i => f (need + i)) (T + 1 - need)), m, o) := by
  have a := l_atLeast h hT hneed h1 hf (T + 1 - need) 1000 0 o (by omega) (by omega)
  have z : lN (sN (fun i => f (need + i)) 0) = 0 := rfl
  rw [z, Nat.add_zero] at a
  have e1 : (if (0 : Int32) < nI need then nI need else 0) = nI need := mx0 (by omega)
  unfold F_X6_atLeast f_X6_atLeast_0
  rw [e1, a]

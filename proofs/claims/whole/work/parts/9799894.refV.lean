/-! ===== the other side reads a factor ===== -/
theorem e_opens {m : Mm} {n : Nat} {s : Nat → Nat} {a c h k : Nat} (hR : RS m n s a c h k) (han : a < n) : (k = 6 → ∃ m', (∀ o, F_X12_opens 225 m o = ((), m', o)) ∧ RF m m' (5, a)) ∧ (k < 6 → ∃ m', (∀ o, F_X12_opens 225 m o = ((), m', o)) ∧ RS m' n s (a + 1) c (h + 1) (k + 1) ∧ Fr (rfP h c) m m' ∧ gI m' 253 h = nI (s a) ∧ gI m' 225 43 = gI m 225 43 ∧ gI m' 225 42 = gI m 225 42) := by
  obtain ⟨hB, h35, h37, h39, h40, h41, b1, b2, b3⟩ := id hR
  have hS := hB.1
  have hn := hB.2.2.1
  refine ⟨fun k6 => ?_, fun k6 => ?_⟩
  · have hm : ∃ m1, m1 = sI (sI m 225 37 (bdv (5, a))) 225 40 (nI (k + 1)) := ⟨_, rfl⟩
    obtain ⟨m1, e1⟩ := hm
    have F1 : Fr rfA m m1 := by rw [e1]; exact Fr_sI (Fr_sI (Fr_refl _ m) (by unfold rfA; omega) _) (by unfold rfA; omega) _
    have B1 := RB_Fr hB F1
    have g35 : gI m1 225 35 = nI a := by rw [e1, gI_sI, if_neg (by omega), gI_sI, if_neg (by omega)]; exact h35
    have g41 : gI m1 225 41 = nI h := by rw [e1, gI_sI, if_neg (by omega), gI_sI, if_neg (by omega)]; exact h41
    have g37 : gI m1 225 37 = bdv (5, a) := by rw [e1, gI_sI, if_neg (by omega), gI_sI, if_pos ⟨rfl, rfl⟩]
    refine ⟨sI (sI (sI m1 253 h (nI (s a))) 225 41 (nI (h + 1))) 225 35 (nI (a + 1)), fun o => ?_, Fr_trans F1 (Fr_sI (Fr_sI (Fr_sI (Fr_refl _ m1) (by unfold rfA; omega) _) (by unfold rfA; omega) _) (by unfold rfA; omega) _), ?_, by show 1 ≤ 5; omega, by show 5 ≤ 5; omega, by show a ≤ 200; omega⟩
    · have hp := fun o => e_putsB B1.1 (show h < 240 by omega) g35 g41 (nI (s a)) o
      have hh := fun o => e_hereB B1 (show a ≤ 210 by omega) g35 o
      have hw := fun o => e_wrongs hS h37 5 a o
      have hw : ∀ o, F_X12_wrongs 225 5 (nI a) m o = ((), sI m 225 37 (bdv (5, a)), o) := hw
      have k6' : nI k = 6 := by rw [k6]; rfl
      have e1' : sI (sI m 225 37 (bdv (5, a))) 225 40 (nI k + 1) = m1 := by rw [e1, nI_1]
      unfold F_X12_opens f_X12_opens_0
      rw [h40, if_pos k6', h35, hw, bnd_mk]
      unfold f_X12_opens_18
      have g40 : gI (sI m 225 37 (bdv (5, a))) 225 40 = nI k := by rw [gI_sI, if_neg (by omega)]; exact h40
      rw [g40, e1']
      unfold f_X12_opens_28
      rw [hh, bnd_mk]
      unfold f_X12_opens_33
      rw [hp, bnd_mk]
      unfold f_X12_opens_36
      have S1 := B1.1
      simp (config := {decide := true}) only [gT_sI, shT_225 hS, shT_225 S1, ne_eq, not_false_eq_true, and_self, and_true, true_and, and_false, false_and, true_or, or_true, false_or, or_false, not_true_eq_false, if_false, if_true]
    · rw [gI_sI, if_neg (by omega), gI_sI, if_neg (by omega), gI_sI, if_neg (by omega)]; exact g37
  · have F1 : Fr (rfP h c) m (sI m 225 40 (nI (k + 1))) := Fr_sI (Fr_refl _ m) (by unfold rfP; omega) _
    have R1 : RS (sI m 225 40 (nI (k + 1))) n s a c h (k + 1) := ⟨RB_Fr hB (Fr_mono F1 (fun q i y => rfP_A y)), by rw [gI_sI, if_neg (by omega)]; exact h35, by rw [gI_sI, if_neg (by omega)]; exact h37, by rw [gI_sI, if_neg (by omega)]; exact h39, by rw [gI_sI, if_pos ⟨rfl, rfl⟩], by rw [gI_sI, if_neg (by omega)]; exact h41, b1, b2, b3⟩
    obtain ⟨m', p1, p2, p3, p4, p5, p6⟩ := e_puts R1 han (nI (s a))
    refine ⟨m', fun o => ?_, p2, Fr_trans F1 p3, p4, by rw [p5, gI_sI, if_neg (by omega)], by rw [p6, gI_sI, if_neg (by omega)]⟩
    have k6' : ¬ nI k = 6 := fun y => absurd ((nI_eq (b := 6) (by omega) (by omega)).mp y) (by omega)
    have hh := fun o => e_here R1 o
    unfold F_X12_opens f_X12_opens_0
    rw [h40, if_neg k6']
    unfold f_X12_opens_18
    rw [h40, nI_1]
    unfold f_X12_opens_28
    rw [hh, bnd_mk]
    unfold f_X12_opens_33
    rw [p1, bnd_mk]
    unfold f_X12_opens_36
    simp (config := {decide := true}) only [gT_sI, shT_225 hS, ne_eq, not_false_eq_true, and_self, and_true, true_and, and_false, false_and, true_or, or_true, false_or, or_false, not_true_eq_false, if_false, if_true]
theorem RS_to {m : Mm} {n : Nat} {s : Nat → Nat} {a c h k p : Nat} (hR : RS m n s a c h k) (hap : a ≤ p) (hp : p ≤ n) : RS (sI m 225 35 (nI p)) n s p c h k := by
  obtain ⟨hB, h35, h37, h39, h40, h41, b1, b2, b3⟩ := id hR
  exact ⟨RB_Fr hB (Fr_sI (Fr_refl _ m) (by unfold rfA; omega) _), by rw [gI_sI, if_pos ⟨rfl, rfl⟩], by rw [gI_sI, if_neg (by omega)]; exact h37, by rw [gI_sI, if_neg (by omega)]; exact h39, by rw [gI_sI, if_neg (by omega)]; exact h40, by rw [gI_sI, if_neg (by omega)]; exact h41, hp, by omega, by omega⟩
theorem reads_bad {m : Mm} (hS : Sh m) (h37 : ¬ gI m 225 37 = 0) (N : Nat) (f x : Int32) (o : Prop) : f_X12_reads_7 (N + 1) 225 f x m o = (x, m, o) := by
  show f_X12_reads_7b (f_X12_reads_7 N) 225 f x m o = _
  unfold f_X12_reads_7b
  rw [e_bad hS h37, bnd_mk]
  unfold f_X12_reads_11 f_X12_reads_66
  rw [if_pos rfl]
  simp (config := {decide := true}) only [shT_225 hS, ne_eq, not_false_eq_true, and_self, and_true, true_and, and_false, false_and, true_or, or_true, false_or, or_false, not_true_eq_false, if_false, if_true]
theorem reads_six (K : Nat → Int32 → Int32 → Mm → Prop → Int32 × Mm × Prop) {m m1 : Mm} {l1 l2 hv p : Int32} (hS : Sh m) (hS1 : Sh m1) (h35 : gI m 225 35 = p) (hx : p = l1 + 5) (hw : ∀ o, F_X12_wrongs 225 2 p m o = ((), m1, o)) (hh : ∀ o, F_X12_here 225 m1 o = (hv, m1, o)) (o : Prop) : f_X12_reads_18 K 225 l1 l2 1 m o = K 225 l1 (10 * l2 + hv - 48) (sI m1 225 35 (gI m1 225 35 + 1)) o := by
  have t0 : gT m 225 = 12 := shT_225 hS
  have t1 : gT m1 225 = 12 := shT_225 hS1
  unfold f_X12_reads_18
  rw [if_neg (by decide), h35, if_pos hx, hw, bnd_mk]
  unfold f_X12_reads_40
  rw [hh, bnd_mk]
  unfold f_X12_reads_48 f_X12_reads_63
  simp only [t0, t1, and_true]
theorem l_reads {n : Nat} {s : Nat → Nat} {a0 : Nat} : ∀ (r N v a c h k : Nat) (m : Mm), RS m n s a c h k → r ≤ 5 → a + r = a0 + 5 → r + 2 < N → (∀ e, sDg s r v a = .inl e → ∃ m' u, (∀ o, f_X12_reads_7 N 225 (nI a0) (nI v) m o = (u, m', o)) ∧ RF m m' e) ∧ (∀ q, sDg s r v a = .inr q → ∀ o, f_X12_reads_7 N 225 (nI a0) (nI v) m o = (nI q.2, sI m 225 35 (nI q.1), o)) := by
  intro r
  induction r with
  | zero =>
    intro N v a c h k m hR hr5 ha hN
    obtain ⟨N, rfl⟩ : ∃ N1, N = N1 + 1 := ⟨N - 1, by omega⟩
    obtain ⟨N, rfl⟩ : ∃ N1, N = N1 + 1 := ⟨N - 1, by omega⟩
    obtain ⟨hB, h35, h37, h39, h40, h41, b1, b2, b3⟩ := id hR
    have hS := hB.1
    have hn := hB.2.2.1
    have dd := fun o => e_seesDigit hB (show a ≤ 210 by omega) h35 o
    have base : ∀ o, f_X12_reads_7 (N + 1 + 1) 225 (nI a0) (nI v) m o = bnd (F_X12_seesDigit 225 m o) (fun v1 m1 o1 => f_X12_reads_18 (f_X12_reads_7 (N + 1)) 225 (nI a0) (nI v) v1 m1 o1) := fun o => by
      show f_X12_reads_7b (f_X12_reads_7 (N + 1)) 225 (nI a0) (nI v) m o = _
      unfold f_X12_reads_7b
      rw [e_good hS h37, bnd_mk]
      unfold f_X12_reads_11
      rw [if_neg (by decide)]
      simp (config := {decide := true}) only [shT_225 hS, ne_eq, not_false_eq_true, and_self, and_true, true_and, and_false, false_and, true_or, or_true, false_or, or_false, not_true_eq_false, if_false, if_true]
    unfold sDg
    by_cases c1 : isDg (s a)
    · rw [iT_pos c1]
      refine ⟨fun e y => ?_, fun q y => (by cases y)⟩
      cases y
      have R1 := RF_here hR (f := 2) (by omega) (by omega)
      have B1 := RB_Fr hB R1.1
      have S1 := B1.1
      have g35 : gI (sI m 225 37 (bdv (2, a))) 225 35 = nI a := by rw [gI_sI, if_neg (by omega)]; exact h35
      have hh := fun o => e_hereB B1 (show a ≤ 210 by omega) g35 o
      have hbad := RF_bad R1
      have hw : ∀ o, F_X12_wrongs 225 2 (nI a) m o = ((), sI m 225 37 (bdv (2, a)), o) := fun o => e_wrongs hS h37 2 a o
      have F2 : Fr rfA (sI m 225 37 (bdv (2, a))) (sI (sI m 225 37 (bdv (2, a))) 225 35 (nI (a + 1))) := Fr_sI (Fr_refl _ _) (by unfold rfA; omega) _
      have g37 : gI (sI (sI m 225 37 (bdv (2, a))) 225 35 (nI (a + 1))) 225 37 = gI (sI m 225 37 (bdv (2, a))) 225 37 := by rw [gI_sI, if_neg (by omega)]
      obtain ⟨u, hu⟩ : ∃ u : Int32, u = 10 * nI v + nI (s a) - 48 := ⟨_, rfl⟩
      refine ⟨sI (sI m 225 37 (bdv (2, a))) 225 35 (nI (a + 1)), u, fun o => ?_, RF_post R1 F2 g37⟩
      have S2 := Fr_Sh F2 S1
      have hb2 : ¬ gI (sI (sI m 225 37 (bdv (2, a))) 225 35 (nI (a + 1))) 225 37 = 0 := by rw [g37]; exact hbad
      have e5 : nI a = nI a0 + 5 := by
        rw [show (5 : Int32) = nI 5 from rfl, nI_add, show a = a0 + 5 by omega]
      rw [base, (dd _).1 c1, bnd_mk, reads_six _ hS S1 h35 e5 hw hh, g35, nI_1, ← hu, reads_bad S2 hb2]
    · rw [iT_neg c1]
      refine ⟨fun e y => (by cases y), fun q y o => ?_⟩
      cases y
      rw [base, (dd _).2 c1, bnd_mk]
      unfold f_X12_reads_18 f_X12_reads_66
      rw [if_pos rfl, sI_self h35]
  | succ r ih =>
    intro N v a c h k m hR hr5 ha hN
    obtain ⟨N, rfl⟩ : ∃ N1, N = N1 + 1 := ⟨N - 1, by omega⟩
    obtain ⟨hB, h35, h37, h39, h40, h41, b1, b2, b3⟩ := id hR
    have hS := hB.1
    have hn := hB.2.2.1
    have dd := fun o => e_seesDigit hB (show a ≤ 210 by omega) h35 o
    have base : ∀ o, f_X12_reads_7 (N + 1) 225 (nI a0) (nI v) m o = bnd (F_X12_seesDigit 225 m o) (fun v1 m1 o1 => f_X12_reads_18 (f_X12_reads_7 N) 225 (nI a0) (nI v) v1 m1 o1) := fun o => by
      show f_X12_reads_7b (f_X12_reads_7 N) 225 (nI a0) (nI v) m o = _
      unfold f_X12_reads_7b
      rw [e_good hS h37, bnd_mk]
      unfold f_X12_reads_11
      rw [if_neg (by decide)]
      simp (config := {decide := true}) only [shT_225 hS, ne_eq, not_false_eq_true, and_self, and_true, true_and, and_false, false_and, true_or, or_true, false_or, or_false, not_true_eq_false, if_false, if_true]
    unfold sDg
    by_cases c1 : isDg (s a)
    · rw [iT_pos c1]
      have han : a < n := lt_of_sg hB.2.2.2.2 (by unfold isDg at c1; omega)
      have R1 := RS_to hR (show a ≤ a + 1 by omega) (show a + 1 ≤ n by omega)
      obtain ⟨i1, i2⟩ := ih N (10 * v + s a - 48) (a + 1) c h k _ R1 (by omega) (by omega) (by omega)
      have n5 : ¬ nI a = nI a0 + 5 := fun y => by
        rw [show (5 : Int32) = nI 5 from rfl, nI_add] at y
        have := (nI_eq (by omega) (by omega)).mp y
        omega
      have val : (10 : Int32) * nI v + nI (s a) - 48 = nI (10 * v + s a - 48) := by
        rw [(show (10 : Int32) * nI (v) = nI (10 * v) by rw [show (10 : Int32) = nI 10 from rfl, pk_mul]), nI_add]
        exact pk_sub (b := 48) (by unfold isDg at c1; omega)
      have base2 : ∀ o, f_X12_reads_7 (N + 1) 225 (nI a0) (nI v) m o = f_X12_reads_7 N 225 (nI a0) (nI (10 * v + s a - 48)) (sI m 225 35 (nI (a + 1))) o := fun o => by
        rw [base, (dd _).1 c1, bnd_mk]
        unfold f_X12_reads_18
        rw [if_neg (by decide), h35, if_neg n5]
        unfold f_X12_reads_40
        rw [e_here hR, bnd_mk]
        unfold f_X12_reads_48 f_X12_reads_63
        rw [h35, nI_1, val]
        simp (config := {decide := true}) only [shT_225 hS, ne_eq, not_false_eq_true, and_self, and_true, true_and, and_false, false_and, true_or, or_true, false_or, or_false, not_true_eq_false, if_false, if_true]
      refine ⟨fun e y => ?_, fun q y o => ?_⟩
      · obtain ⟨m', u, j1, j2⟩ := i1 e y
        exact ⟨m', u, fun o => by rw [base2, j1], RF_pre (Fr_sI (Fr_refl _ m) (by unfold rfA; omega) _) j2⟩
      · rw [base2, i2 q y, sI_twice]
    · rw [iT_neg c1]
      refine ⟨fun e y => (by cases y), fun q y o => ?_⟩
      cases y
      rw [base, (dd _).2 c1, bnd_mk]
      unfold f_X12_reads_18 f_X12_reads_66
      rw [if_pos rfl, sI_self h35]
/-! where the other side stands while it reads a value -/
def BSt (N : Nat) (m : Mm) (o : Prop) : Unit × Mm × Prop := f_X12_value_29 (f_X12_value_7 N) 225 m o
def FSt (N1 N : Nat) (m : Mm) (o : Prop) : Unit × Mm × Prop := bnd (f_X12_factor_0 N1 225 m o) (fun _ m1 o1 => f_X12_value_29 (f_X12_value_7 N) 225 m1 o1)
def XSt (s : Nat → Nat) (p N : Nat) (m : Mm) (o : Prop) : Unit × Mm × Prop := bnd (f_X12_stays_39 225 (nI (s p)) m o) (fun v1 m1 o1 => f_X12_value_45 (f_X12_value_7 N) 225 v1 m1 o1)
def SimR (G : Mm → Prop → Unit × Mm × Prop) (E : Nat → Nat → Mm → Prop → Unit × Mm × Prop) (m : Mm) (n : Nat) (s : Nat → Nat) (a c h k : Nat) (x : PRs VE) : Prop := (∀ e, x = .inl e → ∃ m', (∀ o, G m o = ((), m', o)) ∧ RF m m' e) ∧ ∀ q, x = .inr q → ∃ m' N' c', (∀ o, G m o = E q.1 N' m' o) ∧ n + 3 ≤ q.1 + N' ∧ RS m' n s q.1 c' h k ∧ Fr (rfP h c) m m' ∧ c < c' ∧ c' + a ≤ c + q.1 ∧ RE (rwD m') c c' q.2
/-- the value's loop at an end -/
theorem v_end {m : Mm} (N : Nat) (o : Prop) : f_X12_value_7 (N + 1) 225 0 m o = f_X12_value_57 225 m o := by
  show f_X12_value_7b (f_X12_value_7 N) 225 0 m o = _
  unfold f_X12_value_7b
  rw [if_pos rfl]
theorem v_bad {m : Mm} (hS : Sh m) (h37 : ¬ gI m 225 37 = 0) (o : Prop) : f_X12_value_57 225 m o = ((), m, o) := by
  unfold f_X12_value_57
  rw [e_bad hS h37, bnd_mk]
  unfold f_X12_value_61 f_X12_value_82
  rw [if_pos rfl]
  simp (config := {decide := true}) only [shT_225 hS, ne_eq, not_false_eq_true, and_self, and_true, true_and, and_false, false_and, true_or, or_true, false_or, or_false, not_true_eq_false, if_false, if_true]
theorem v_fail {m m' : Mm} {n : Nat} {s : Nat → Nat} {e : Nat × Nat} (hB : RB m n s) (h : RF m m' e) (N : Nat) : ∃ m2, (∀ o, f_X12_value_29 (f_X12_value_7 (N + 1)) 225 m' o = ((), m2, o)) ∧ RF m m2 e := by
  have hS := (RB_Fr hB h.1).1
  have F : Fr rfA m' (sI m' 225 43 0) := Fr_sI (Fr_refl _ m') (by unfold rfA; omega) _
  have g37 : gI (sI m' 225 43 0) 225 37 = gI m' 225 37 := by rw [gI_sI, if_neg (by omega)]
  have S2 := Fr_Sh F hS
  have b2 : ¬ gI (sI m' 225 43 0) 225 37 = 0 := by rw [g37]; exact RF_bad h
  refine ⟨sI m' 225 43 0, fun o => ?_, RF_post h F g37⟩
  unfold f_X12_value_29 f_X12_value_34
  rw [e_bad S2 b2, bnd_mk]
  unfold f_X12_value_38
  rw [if_pos rfl]
  unfold f_X12_value_52 f_X12_value_53
  rw [v_end, v_bad S2 b2]
  simp (config := {decide := true}) only [gT_sI, shT_225 hS, ne_eq, not_false_eq_true, and_self, and_true, true_and, and_false, false_and, true_or, or_true, false_or, or_false, not_true_eq_false, if_false, if_true]
theorem fac_bad {m : Mm} (hS : Sh m) (h37 : ¬ gI m 225 37 = 0) (N : Nat) (o : Prop) : f_X12_factor_0 (N + 1) 225 m o = ((), m, o) := by
  show f_X12_factor_0b (f_X12_factor_0 N) 225 m o = _
  unfold f_X12_factor_0b
  rw [e_bad hS h37, bnd_mk]
  unfold f_X12_factor_4
  rw [if_pos rfl]
  unfold f_X12_factor_23
  rw [e_bad hS h37, bnd_mk]
  unfold f_X12_factor_27
  rw [if_pos rfl]
  simp (config := {decide := true}) only [shT_225 hS, ne_eq, not_false_eq_true, and_self, and_true, true_and, and_false, false_and, true_or, or_true, false_or, or_false, not_true_eq_false, if_false, if_true]
theorem e_factorR {n : Nat} {s : Nat → Nat} {r : Nat} (hr : r ≤ 6) {rcs : Option (Nat → PRs VE)} (h0 : r = 0 → rcs = none) (hN : 0 < r → ∃ f, rcs = some f ∧ (∀ a, a ≤ n → prg n a (f a)) ∧ ∀ N1 N m a c h, RS m n s a c h (6 - r + 1) → 0 < h → gI m 253 (h - 1) = nI 91 → n < a + N1 → n + 3 ≤ a + N → SimR (FSt N1 N) (XSt s) m n s a c h (6 - r + 1) (f a)) {N1 N : Nat} {m : Mm} {a c h : Nat} (hR : RS m n s a c h (6 - r)) (hN1 : n < a + N1) (hN2 : n + 3 ≤ a + N) : SimR (FSt N1 N) (fun _ => BSt) m n s a c h (6 - r) (sFc s rcs a) := by
  obtain ⟨hB, h35, h37, h39, h40, h41, b1, b2, b3⟩ := id hR
  have hS := hB.1
  have hn := hB.2.2.1
  have hz := hB.2.2.2.2
  have hs := RB_256 hB a
  obtain ⟨N, rfl⟩ : ∃ N', N = N' + 1 := ⟨N - 1, by omega⟩
  obtain ⟨N1, rfl⟩ : ∃ N', N1 = N' + 1 := ⟨N1 - 1, by omega⟩
  have base : ∀ o, f_X12_factor_0 (N1 + 1) 225 m o = f_X12_factor_11 (f_X12_factor_0 N1) 225 (nI (s a)) m o := fun o => by
    show f_X12_factor_0b (f_X12_factor_0 N1) 225 m o = _
    unfold f_X12_factor_0b
    rw [e_good hS h37, bnd_mk]
    unfold f_X12_factor_4
    rw [if_neg (by decide), e_here hR, bnd_mk]
    simp (config := {decide := true}) only [shT_225 hS, ne_eq, not_false_eq_true, and_self, and_true, true_and, and_false, false_and, true_or, or_true, false_or, or_false, not_true_eq_false, if_false, if_true]
  have e91 : (nI (s a) = 91) = (s a = 91) := propext (nI_eq (b := 91) (by omega) (by omega))
  by_cases c91 : s a = 91
  · have cv : nI (s a) = 91 := by rw [e91]; exact c91
    have han : a < n := lt_of_sg hz (by omega)
    obtain ⟨op6, op5⟩ := e_opens hR han
    by_cases r0 : r = 0
    · obtain rfl := h0 r0
      have eS : sFc s none a = .inl (5, a) := by unfold sFc; rw [iT_pos c91]
      rw [eS]
      obtain ⟨m1, o1, o2⟩ := op6 (by omega)
      refine ⟨fun e y => ?_, fun q y => (by cases y)⟩
      cases y
      have S1 := (RB_Fr hB o2.1).1
      obtain ⟨m2, f1, f2⟩ := v_fail hB o2 N
      obtain ⟨N1, rfl⟩ : ∃ N', N1 = N' + 1 := ⟨N1 - 1, by omega⟩
      have eF : ∀ o, f_X12_factor_0 (N1 + 1 + 1) 225 m o = ((), m1, o) := fun o => by
        rw [base]
        unfold f_X12_factor_11
        rw [if_pos cv, o1, bnd_mk]
        unfold f_X12_factor_20
        rw [fac_bad S1 (RF_bad o2)]
        simp (config := {decide := true}) only [shT_225 hS, ne_eq, not_false_eq_true, and_self, and_true, true_and, and_false, false_and, true_or, or_true, false_or, or_false, not_true_eq_false, if_false, if_true]
      refine ⟨m2, fun o => ?_, f2⟩
      unfold FSt
      rw [eF, bnd_mk, f1]
    · obtain ⟨f, rfl, hp, hf⟩ := hN (by omega)
      obtain ⟨m1, o1, o2, o3, o4, -, -⟩ := op5 (by omega)
      have eS : sFc s (some f) a = bS (f (a + 1)) (fun p V => iT (s p = 93) (.inr (p + 1, V)) (.inl (1, p))) := by unfold sFc; rw [iT_pos c91]
      have o4 : gI m1 253 h = nI 91 := by rw [o4, c91]
      obtain ⟨g1, g2⟩ := hf N1 (N + 1) m1 (a + 1) c (h + 1) o2 (by omega) o4 (by omega) (by omega)
      have eF : ∀ o, f_X12_factor_0 (N1 + 1) 225 m o = f_X12_factor_0 N1 225 m1 o := fun o => by
        rw [base]
        unfold f_X12_factor_11
        rw [if_pos cv, o1, bnd_mk]
        unfold f_X12_factor_20
        simp (config := {decide := true}) only [shT_225 hS, ne_eq, not_false_eq_true, and_self, and_true, true_and, and_false, false_and, true_or, or_true, false_or, or_false, not_true_eq_false, if_false, if_true]
      have base2 : ∀ o, FSt (N1 + 1) (N + 1) m o = FSt N1 (N + 1) m1 o := fun o => by
        unfold FSt
        rw [eF]
      rw [eS]
      cases hfa : f (a + 1) with
      | inl e =>
        obtain ⟨m', a1, a2⟩ := g1 e hfa
        rw [bS_l]
        refine ⟨fun e' y => ?_, fun q y => (by cases y)⟩
        cases y
        exact ⟨m', fun o => by rw [base2]; exact a1 o, RF_pre (Fr_mono o3 (fun q i y => rfP_A y)) a2⟩
      | inr q =>
        obtain ⟨p, V⟩ := q
        obtain ⟨m2, N', c', a1, a2, a3, a4, a5, a6, a7⟩ := g2 (p, V) hfa
        have a2 : n + 3 ≤ p + N' := a2
        have a6 : c' + (a + 1) ≤ c + p := a6
        have a3 : RS m2 n s p c' (h + 1) (6 - r + 1) := a3
        have hpn : a + 1 < p ∧ p ≤ n := hp (a + 1) han (p, V) hfa
        obtain ⟨N', rfl⟩ : ∃ N'', N' = N'' + 1 := ⟨N' - 1, by omega⟩
        obtain ⟨hB2, k35, k37, k39, k40, k41, d1, d2, d3⟩ := id a3
        have S2 := hB2.1
        have hs2 := RB_256 hB2 p
        have t91 : gI m2 253 h = nI 91 := by rw [Fr_at a4 (by unfold rfP; omega)]; exact o4
        have tp : tpv m2 (h + 1) = 91 := by
          unfold tpv
          rw [if_neg (by omega), Nat.add_sub_cancel, t91]
          rfl
        have e93 : (nI (s p) = 93) = (s p = 93) := propext (nI_eq (b := 93) (by omega) (by omega))
        rw [bS_r]
        by_cases c93 : s p = 93
        · rw [iT_pos c93]
          have hpn' : p < n := lt_of_sg hz (by omega)
          have em : ∃ m3, m3 = sI (sI (sI (sI m2 225 41 (nI h)) 225 40 (nI (6 - r))) 225 35 (nI (p + 1))) 225 43 1 := ⟨_, rfl⟩
          obtain ⟨m3, em⟩ := em
          have F3 : Fr (rfP h c) m2 m3 := by rw [em]; exact Fr_sI (Fr_sI (Fr_sI (Fr_sI (Fr_refl _ m2) (by unfold rfP; omega) _) (by unfold rfP; omega) _) (by unfold rfP; omega) _) (by unfold rfP; omega) _
          have B3 := RB_Fr hB2 (Fr_mono F3 (fun q i y => rfP_A y))
          have S3 := B3.1
          have k37' : gI m3 225 37 = 0 := by rw [em, gI_sI, if_neg (by omega), gI_sI, if_neg (by omega), gI_sI, if_neg (by omega), gI_sI, if_neg (by omega)]; exact k37
          have R3 : RS m3 n s (p + 1) c' h (6 - r) := ⟨B3, by rw [em, gI_sI, if_neg (by omega), gI_sI, if_pos ⟨rfl, rfl⟩], k37', by rw [em, gI_sI, if_neg (by omega), gI_sI, if_neg (by omega), gI_sI, if_neg (by omega), gI_sI, if_neg (by omega)]; exact k39, by rw [em, gI_sI, if_neg (by omega), gI_sI, if_neg (by omega), gI_sI, if_pos ⟨rfl, rfl⟩], by rw [em, gI_sI, if_neg (by omega), gI_sI, if_neg (by omega), gI_sI, if_neg (by omega), gI_sI, if_pos ⟨rfl, rfl⟩], hpn', by omega, by omega⟩
          have g43 : ¬ gI m3 225 43 = 0 := by rw [em, gI_sI, if_pos ⟨rfl, rfl⟩]; decide
          refine ⟨fun e y => (by cases y), fun q y => ?_⟩
          cases y
          refine ⟨m3, N', c', fun o => ?_, by simp only; omega, R3, Fr_trans o3 (Fr_trans (Fr_mono a4 (fun q i y => rfP_le y (by omega) (Nat.le_refl _))) F3), a5, by simp only; omega, RE_congr a7 (fun x _ _ => ⟨by
            show gI m3 251 x = gI m2 251 x
            rw [em, gI_sI, if_neg (by omega), gI_sI, if_neg (by omega), gI_sI, if_neg (by omega), gI_sI, if_neg (by omega)], by
            show gI m3 252 x = gI m2 252 x
            rw [em, gI_sI, if_neg (by omega), gI_sI, if_neg (by omega), gI_sI, if_neg (by omega), gI_sI, if_neg (by omega)]⟩)⟩
          have cv2 : nI (s p) = 93 := by rw [e93]; exact c93
          have h41' : nI (h + 1) - 1 = nI h := by rw [nI_sub1 (by omega), Nat.add_sub_cancel]
          have h40' : nI (6 - r + 1) - 1 = nI (6 - r) := by rw [nI_sub1 (by omega), Nat.add_sub_cancel]
          have q40 : gI (sI m2 225 41 (nI h)) 225 40 = nI (6 - r + 1) := by rw [gI_sI, if_neg (by omega)]; exact k40
          have q35 : gI (sI (sI m2 225 41 (nI h)) 225 40 (nI (6 - r))) 225 35 = nI p := by rw [gI_sI, if_neg (by omega), gI_sI, if_neg (by omega)]; exact k35
          have eX : ∀ o, f_X12_stays_39 225 (nI (s p)) m2 o = (1, m3, o) := fun o => by
            unfold f_X12_stays_39
            rw [if_pos cv2, e_topR S2 (by omega) k41, bnd_mk, tp]
            unfold f_X12_stays_51
            rw [if_pos rfl, k41, h41']
            unfold f_X12_stays_77
            rw [q40, h40']
            unfold f_X12_stays_87
            rw [q35, nI_1]
            unfold f_X12_stays_97 f_X12_stays_102
            rw [← em]
            simp (config := {decide := true}) only [gT_sI, shT_225 S2, ne_eq, not_false_eq_true, and_self, and_true, true_and, and_false, false_and, true_or, or_true, false_or, or_false, not_true_eq_false, if_false, if_true]
          rw [base2, a1]
          unfold XSt
          rw [eX, bnd_mk]
          unfold f_X12_value_45
          rw [if_neg (by decide)]
          unfold f_X12_value_53
          show f_X12_value_7b (f_X12_value_7 N') 225 1 m3 _ = _
          unfold f_X12_value_7b
          rw [if_neg (by decide), e_good S3 k37', bnd_mk]
          unfold f_X12_value_15
          rw [if_neg (by decide), if_neg g43]
          unfold BSt
          simp (config := {decide := true}) only [gT_sI, shT_225 S2, shT_225 S3, ne_eq, not_false_eq_true, and_self, and_true, true_and, and_false, false_and, true_or, or_true, false_or, or_false, not_true_eq_false, if_false, if_true]
        · rw [iT_neg c93]
          have cv2 : ¬ nI (s p) = 93 := by rw [e93]; exact c93
          refine ⟨fun e y => ?_, fun q y => (by cases y)⟩
          cases y
          refine ⟨sI m2 225 37 (bdv (1, p)), fun o => ?_, RF_pre (Fr_mono o3 (fun q i y => rfP_A y)) (RF_pre (Fr_mono a4 (fun q i y => rfP_A y)) (RF_here a3 (by omega) (by omega)))⟩
          have hw : ∀ o, F_X12_wrongs 225 1 (nI p) m2 o = ((), sI m2 225 37 (bdv (1, p)), o) := fun o => e_wrongs S2 k37 1 p o
          have eX : ∀ o, f_X12_stays_39 225 (nI (s p)) m2 o = (0, m2, o) := fun o => by
            unfold f_X12_stays_39
            rw [if_neg cv2]
          rw [base2, a1]
          unfold XSt
          rw [eX, bnd_mk]
          unfold f_X12_value_45
          rw [if_pos rfl]
          unfold f_X12_value_52 f_X12_value_53
          rw [v_end]
          unfold f_X12_value_57
          rw [e_good S2 k37, bnd_mk]
          unfold f_X12_value_61
          rw [if_neg (by decide), e_topR S2 (by omega) k41, bnd_mk, tp]
          unfold f_X12_value_68
          rw [if_pos rfl, k35, hw, bnd_mk]
          unfold f_X12_value_82
          simp (config := {decide := true}) only [shT_225 S2, ne_eq, not_false_eq_true, and_self, and_true, true_and, and_false, false_and, true_or, or_true, false_or, or_false, not_true_eq_false, if_false, if_true]
  · have cv : ¬ nI (s a) = 91 := by rw [e91]; exact c91
    have dd := fun o => e_seesDigit hB (show a ≤ 210 by omega) h35 o
    have base2 : ∀ o, f_X12_factor_0 (N1 + 1) 225 m o = bnd (F_X12_seesDigit 225 m o) (fun v1 m1 o1 => f_X12_factor_35 225 v1 m1 o1) := fun o => by
      rw [base]
      unfold f_X12_factor_11
      rw [if_neg cv]
      unfold f_X12_factor_23
      rw [e_good hS h37, bnd_mk]
      unfold f_X12_factor_27
      rw [if_neg (by decide)]
      simp (config := {decide := true}) only [shT_225 hS, ne_eq, not_false_eq_true, and_self, and_true, true_and, and_false, false_and, true_or, or_true, false_or, or_false, not_true_eq_false, if_false, if_true]
    by_cases cd : isDg (s a)
    · have eS : sFc s rcs a = bS (sDg s 5 0 a) (fun p v => .inr (p, fun _ => some (nI v))) := by unfold sFc; rw [iT_neg c91, iT_pos cd]
      obtain ⟨n1, n2⟩ := l_reads (n := n) (s := s) (a0 := a) 5 1000 0 a c h (6 - r) m hR (Nat.le_refl _) rfl (by omega)
      have base3 : ∀ o, f_X12_factor_0 (N1 + 1) 225 m o = bnd (f_X12_reads_7 1000 225 (nI a) (nI 0) m o) (fun v1 m1 o1 => f_X12_factor_44 v1 0 225 m1 o1) := fun o => by
        rw [base2, (dd _).1 cd, bnd_mk]
        unfold f_X12_factor_35
        rw [if_neg (by decide)]
        unfold F_X12_reads f_X12_reads_0
        rw [h35]
        simp (config := {decide := true}) only [shT_225 hS, ne_eq, not_false_eq_true, and_self, and_true, true_and, and_false, false_and, true_or, or_true, false_or, or_false, not_true_eq_false, if_false, if_true]
        rfl
      rw [eS]
      cases hd : sDg s 5 0 a with
      | inl e =>
        obtain ⟨m1, u, a1, a2⟩ := n1 e hd
        rw [bS_l]
        refine ⟨fun e' y => ?_, fun q y => (by cases y)⟩
        cases y
        obtain ⟨m2, f1, f2⟩ := v_fail hB a2 N
        have S1 := (RB_Fr hB a2.1).1
        have eM : ∀ o, F_X12_emit 225 0 u m1 o = ((), m1, o) := fun o => by
          unfold F_X12_emit f_X12_emit_0
          rw [e_bad S1 (RF_bad a2), bnd_mk]
          unfold f_X12_emit_4
          rw [if_pos rfl]
          simp (config := {decide := true}) only [shT_225 S1, ne_eq, not_false_eq_true, and_self, and_true, true_and, and_false, false_and, true_or, or_true, false_or, or_false, not_true_eq_false, if_false, if_true]
        have eF : ∀ o, f_X12_factor_0 (N1 + 1) 225 m o = ((), m1, o) := fun o => by
          rw [base3, a1, bnd_mk]
          unfold f_X12_factor_44
          rw [eM, bnd_mk]
          unfold f_X12_factor_47 f_X12_factor_91
          simp (config := {decide := true}) only [shT_225 S1, ne_eq, not_false_eq_true, and_self, and_true, true_and, and_false, false_and, true_or, or_true, false_or, or_false, not_true_eq_false, if_false, if_true]
        refine ⟨m2, fun o => ?_, f2⟩
        unfold FSt
        rw [eF, bnd_mk, f1]
      | inr q =>
        obtain ⟨p, v⟩ := q
        obtain ⟨p1, p2, p3⟩ := sDg_prog hz 5 0 a b1 (p, v) hd
        have p3 : a < p := p3 cd
        have p2 : p ≤ n := p2
        have R1 := RS_to hR (Nat.le_of_lt p3) p2
        have S1 := R1.1.1
        obtain ⟨m', e1, e2, e3, e4, e5⟩ := e_emit S1 R1.2.2.1 (show c < 200 by omega) R1.2.2.2.1 0 (nI v)
        rw [bS_r]
        refine ⟨fun e y => (by cases y), fun q y => ?_⟩
        cases y
        have F0 : Fr (rfP h c) m (sI m 225 35 (nI p)) := Fr_sI (Fr_refl _ m) (by unfold rfP; omega) _
        have F1 : Fr (rfP h c) (sI m 225 35 (nI p)) m' := Fr_mono e2 (fun q i y => by unfold rfP; omega)
        refine ⟨m', N + 1, c + 1, fun o => ?_, by simp only; omega, ⟨RB_Fr R1.1 (Fr_mono F1 (fun q i y => rfP_A y)), by rw [Fr_at e2 (by omega)]; exact R1.2.1, by rw [Fr_at e2 (by omega)]; exact R1.2.2.1, e3, by rw [Fr_at e2 (by omega)]; exact R1.2.2.2.2.1, by rw [Fr_at e2 (by omega)]; exact R1.2.2.2.2.2.1, p2, by simp only; omega, by simp only; omega⟩, Fr_trans F0 F1, by omega, by simp only; omega, RE_num e4 e5⟩
        have eF : ∀ o, f_X12_factor_0 (N1 + 1) 225 m o = ((), m', o) := fun o => by
          rw [base3, n2 (p, v) hd, bnd_mk]
          unfold f_X12_factor_44
          rw [e1, bnd_mk]
          unfold f_X12_factor_47 f_X12_factor_91
          simp (config := {decide := true}) only [gT_sI, shT_225 hS, ne_eq, not_false_eq_true, and_self, and_true, true_and, and_false, false_and, true_or, or_true, false_or, or_false, not_true_eq_false, if_false, if_true]
        unfold FSt BSt
        rw [eF, bnd_mk]
    · by_cases cl : lix (s a) < 10
      · have eS : sFc s rcs a = .inr (a + 1, fun l => some (l (lix (s a)))) := by unfold sFc; rw [iT_neg c91, iT_neg cd, iT_pos cl]
        have han : a < n := lt_of_sg hz (fun y => by rw [y] at cl; exact absurd cl (by decide))
        obtain ⟨m1, e1, e2, e3, e4, e5⟩ := e_emit hS h37 (show c < 200 by omega) h39 1 (nI (s a))
        have F1 : Fr (rfP h c) m m1 := Fr_mono e2 (fun q i y => by unfold rfP; omega)
        have F2 : Fr (rfP h c) m1 (sI m1 225 35 (nI (a + 1))) := Fr_sI (Fr_refl _ m1) (by unfold rfP; omega) _
        have S1 := Fr_Sh F1 hS
        have g35 : gI m1 225 35 = nI a := by rw [Fr_at e2 (by omega)]; exact h35
        have F12 := Fr_trans F1 F2
        rw [eS]
        refine ⟨fun e y => (by cases y), fun q y => ?_⟩
        cases y
        refine ⟨sI m1 225 35 (nI (a + 1)), N + 1, c + 1, fun o => ?_, by simp only; omega, ⟨RB_Fr hB (Fr_mono F12 (fun q i y => rfP_A y)), by rw [gI_sI, if_pos ⟨rfl, rfl⟩], by rw [gI_sI, if_neg (by omega), Fr_at e2 (by omega)]; exact h37, by rw [gI_sI, if_neg (by omega)]; exact e3, by rw [gI_sI, if_neg (by omega), Fr_at e2 (by omega)]; exact h40, by rw [gI_sI, if_neg (by omega), Fr_at e2 (by omega)]; exact h41, han, by simp only; omega, by simp only; omega⟩, F12, by omega, by simp only; omega, RE_let (k := lix (s a)) ?_ ?_ cl⟩
        · have eF : ∀ o, f_X12_factor_0 (N1 + 1) 225 m o = ((), sI m1 225 35 (nI (a + 1)), o) := fun o => by
            rw [base2, (dd _).2 cd, bnd_mk]
            unfold f_X12_factor_35
            rw [if_pos rfl, e_here hR, bnd_mk]
            unfold f_X12_factor_54
            rw [(e_isValue hs m _).1 cl, bnd_mk]
            unfold f_X12_factor_57
            rw [if_neg (by decide), e_here hR, bnd_mk]
            unfold f_X12_factor_66
            rw [e1, bnd_mk]
            unfold f_X12_factor_69 f_X12_factor_79 f_X12_factor_91
            rw [g35, nI_1]
            simp (config := {decide := true}) only [gT_sI, shT_225 hS, shT_225 S1, ne_eq, not_false_eq_true, and_self, and_true, true_and, and_false, false_and, true_or, or_true, false_or, or_false, not_true_eq_false, if_false, if_true]
          unfold FSt BSt
          rw [eF, bnd_mk]
        · show gI (sI m1 225 35 (nI (a + 1))) 251 c = 1
          rw [gI_sI, if_neg (by omega)]
          exact e4
        · show gI (sI m1 225 35 (nI (a + 1))) 252 c = lch (lix (s a))
          rw [gI_sI, if_neg (by omega), lch_lix cl]
          exact e5
      · have eS : sFc s rcs a = .inl (1, a) := by unfold sFc; rw [iT_neg c91, iT_neg cd, iT_neg cl]
        have hw : ∀ o, F_X12_wrongs 225 1 (nI a) m o = ((), sI m 225 37 (bdv (1, a)), o) := fun o => e_wrongs hS h37 1 a o
        obtain ⟨m2, f1, f2⟩ := v_fail hB (RF_here hR (f := 1) (by omega) (by omega)) N
        rw [eS]
        refine ⟨fun e y => ?_, fun q y => (by cases y)⟩
        cases y
        have eF : ∀ o, f_X12_factor_0 (N1 + 1) 225 m o = ((), sI m 225 37 (bdv (1, a)), o) := fun o => by
          rw [base2, (dd _).2 cd, bnd_mk]
          unfold f_X12_factor_35
          rw [if_pos rfl, e_here hR, bnd_mk]
          unfold f_X12_factor_54
          rw [(e_isValue hs m _).2 cl, bnd_mk]
          unfold f_X12_factor_57
          rw [if_pos rfl, h35, hw, bnd_mk]
          unfold f_X12_factor_91
          simp (config := {decide := true}) only [shT_225 hS, ne_eq, not_false_eq_true, and_self, and_true, true_and, and_false, false_and, true_or, or_true, false_or, or_false, not_true_eq_false, if_false, if_true]
        refine ⟨m2, fun o => ?_, f2⟩
        unfold FSt
        rw [eF, bnd_mk, f1]

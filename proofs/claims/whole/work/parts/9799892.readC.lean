/-! ===== the whole text read by the class ===== -/
abbrev KL : Type := List (Nat × VE × VC)
noncomputable def sLs (s : Nat → Nat) (n : Nat) : Nat → KL → Nat → PRs KL
  | 0, _, a => .inl (0, a)
  | k + 1, acc, a => iT (isKd (s a)) (iT (acc.length = 14) (.inl (4, a)) (bS (sKl s (s a) (a + 1)) (fun p x => iT (p = n) (.inr (p, acc ++ [(s a, x)])) (iT (s p = 59) (sLs s n k (acc ++ [(s a, x)]) (p + 1)) (.inl (1, p)))))) (.inl (1, a))
/-- the class's rows hold these clauses -/
def CLs (m : Mm) (w z : Nat) (acc : KL) : Prop := gI m w 10 = nI acc.length ∧ (∀ q, q < 10 → rwC m w 8 q = 0 ∨ rwC m w 8 q = -1) ∧ ∀ j x, acc[j]? = some x → CKl (rwC m w) z x j
theorem CKl_keep {C C' : Nat → Nat → Int32} {z z' j : Nat} {x : Nat × VE × VC} (h : CKl C z x j) (hz : z ≤ z') (h1 : ∀ y, y < z → C' 1 y = C 1 y ∧ C' 2 y = C 2 y) (h2 : ∀ q, 3 ≤ q → q ≤ 6 → C' q j = C q j) (h8 : ∀ q, C' 8 q = C 8 q ∨ C' 8 q = -1) : CKl C' z' x j := by
  obtain ⟨vs, cs, ce, e3, e4, e5, e6, b1, b2, b3, b4, b5, b6, b7⟩ := h
  refine ⟨vs, cs, ce, (h2 3 (by omega) (by omega)).trans e3, (h2 4 (by omega) (by omega)).trans e4, (h2 5 (by omega) (by omega)).trans e5, (h2 6 (by omega) (by omega)).trans e6, b1, b2, by omega, b4, CCx_congr b5 (fun y _ b => h1 y (by omega)), fun y => ECx_congr (b6 y) (fun y _ b => h1 y (by omega)), fun y u a b c q d e => ?_⟩
  have := b7 y u a b ((h1 u (by omega)).1 ▸ c) q ((h1 u (by omega)).2 ▸ d) e
  rcases h8 q with z | z
  · rw [z]; exact this
  · exact z
theorem l_clausesC {w n : Nat} {s : Nat → Nat} : ∀ (k N : Nat) (acc : KL) (a z : Nat) (m : Mm), acc.length ≤ 14 → acc.length + k = 15 → k < N → CS m w n s a z → CLs m w z acc → (∀ e, sLs s n k acc a = .inl e → ∃ m', (∀ o, f_X4_clauses_2 N 193 (nI acc.length) m o = (0, m', o)) ∧ Fr (clP w) m m' ∧ gI m' 193 4 = nI e.1 ∧ gI m' 193 3 = nI e.2) ∧ (∀ p L, sLs s n k acc a = .inr (p, L) → ∃ m' z', (∀ o, f_X4_clauses_2 N 193 (nI acc.length) m o = (1, m', o)) ∧ Fr (clP w) m m' ∧ z' ≤ 200 ∧ CLs m' w z' L ∧ L.length ≤ 14 ∧ 0 < L.length) := by
  intro k
  induction k with
  | zero =>
    intro N acc a z m h14 hk
    omega
  | succ k ih =>
    intro N acc a z m h14 hk hN h hL
    obtain ⟨N, rfl⟩ : ∃ N1, N = N1 + 1 := ⟨N - 1, by omega⟩
    obtain ⟨hB, h3, h9, hza, han⟩ := id h
    have hSh := hB.1
    have hw := hB.2.1
    have hn200 := hB.2.2.2.2.1
    have hz0 := hB.2.2.2.2.2.2
    obtain ⟨w1, w2, w3, w4⟩ := w_ne hw
    obtain ⟨l10, l8, lK⟩ := id hL
    have g110 : (sgv n s a = 110) = (s a = 110) := sg_eq hB a (ch := 110) (by omega) (by omega)
    have g101 : (sgv n s a = 101) = (s a = 101) := sg_eq hB a (ch := 101) (by omega) (by omega)
    have g103 : (sgv n s a = 103) = (s a = 103) := sg_eq hB a (ch := 103) (by omega) (by omega)
    have base : ∀ o, f_X4_clauses_2 (N + 1) 193 (nI acc.length) m o = f_X4_clauses_12 (f_X4_clauses_2 N) 193 (nI acc.length) (sgv n s a) m o := fun o => by
      show f_X4_clauses_2b (f_X4_clauses_2 N) 193 (nI acc.length) m o = _
      unfold f_X4_clauses_2b
      rw [if_neg (show ¬ (14 : Int32) < nI acc.length from fun y => absurd ((nI_ltI (a := 14) (by omega) (by omega)).mp y) (by omega)), e_sign hB han h3, bnd_mk]
      simp (config := {decide := true}) only [shT_193 hSh, ne_eq, not_false_eq_true, and_self, and_true, true_and, and_false, false_and, true_or, or_true, false_or, or_false, not_true_eq_false, if_false, if_true]
    unfold sLs
    by_cases ck : isKd (s a)
    · rw [iT_pos ck]
      have han' : a < n := lt_of_sg hz0 (by unfold isKd at ck; omega)
      have hsv : sgv n s a = nI (s a) := if_pos han'
      have base2 : ∀ o, f_X4_clauses_2 (N + 1) 193 (nI acc.length) m o = f_X4_clauses_37 (f_X4_clauses_2 N) 193 (nI acc.length) (sgv n s a) m o := fun o => by
        rw [base]
        unfold f_X4_clauses_12
        simp only [g110, g101, g103]
        rcases ck with y | y | y
        · rw [if_pos y]
        · rw [if_neg (by omega), if_pos y]
        · rw [if_neg (by omega), if_neg (by omega), if_pos y]
      by_cases c14 : acc.length = 14
      · rw [iT_pos c14]
        refine ⟨fun e y => ?_, fun p L y => (by cases y)⟩
        cases y
        refine ⟨sI m 193 4 4, fun o => ?_, Fr_mono (Fr_at4 (w := w) (z := 0) _) (fun q i y => clP_cf y), by rw [gI_sI, if_pos ⟨rfl, rfl⟩]; rfl, by rw [gI_sI, if_neg (by omega)]; exact h3⟩
        rw [base2]
        unfold f_X4_clauses_37
        rw [if_pos (by rw [c14]; rfl), e_fail hSh, bnd_mk]
        unfold f_X4_clauses_48
        simp (config := {decide := true}) only [shT_193 hSh, ne_eq, not_false_eq_true, and_self, and_true, true_and, and_false, false_and, true_or, or_true, false_or, or_false, not_true_eq_false, if_false, if_true]
      · rw [iT_neg c14]
        have n14 : ¬ nI acc.length = 14 := fun y => c14 ((nI_eq (b := 14) (by omega) (by omega)).mp y)
        have h1 := CS_at h han'
        have hS1 := h1.1.1
        obtain ⟨k1, k2⟩ := e_clauseC (c := s a) (k := acc.length) (Nat.succ_pos a) h1 (by rw [gI_sI, if_neg (fun y => w1 y.1)]; exact l10) (by omega) ck
        have base3 : ∀ o, f_X4_clauses_2 (N + 1) 193 (nI acc.length) m o = bnd (F_X4_clause 193 (nI (s a)) (sI m 193 3 (nI (a + 1))) o) (fun v1 m1 o1 => f_X4_clauses_64 (f_X4_clauses_2 N) 193 (nI acc.length) v1 m1 o1) := fun o => by
          rw [base2]
          unfold f_X4_clauses_37
          rw [if_neg n14]
          unfold f_X4_clauses_59
          rw [h3, nI_1, hsv]
          simp (config := {decide := true}) only [gT_sI, shT_193 hSh, ne_eq, not_false_eq_true, and_self, and_true, true_and, and_false, false_and, true_or, or_true, false_or, or_false, not_true_eq_false, if_false, if_true]
        have F01 : Fr (clP w) m (sI m 193 3 (nI (a + 1))) := Fr_mono (Fr_at3 (w := w) (z := 0) _) (fun q i y => clP_cf y)
        cases hfa : sKl s (s a) (a + 1) with
        | inl e =>
          obtain ⟨m', a1, a2, a3, a4⟩ := k1 e hfa
          rw [bS_l]
          refine ⟨fun e' y => ?_, fun p L y => (by cases y)⟩
          cases y
          refine ⟨m', fun o => ?_, Fr_trans F01 a2, a3, a4⟩
          rw [base3, a1, bnd_mk]
          unfold f_X4_clauses_64
          rw [if_pos rfl]
        | inr qq =>
          obtain ⟨p, V, T⟩ := qq
          obtain ⟨m1, z1, a1, a2, h2, hap, hzz, b10, bK, r1, r2, r8⟩ := k2 p V T hfa
          have S2 := h2.1.1
          have hpn := h2.2.2.2.2
          have r1' : ∀ x, x < z → rwC m1 w 1 x = rwC m w 1 x ∧ rwC m1 w 2 x = rwC m w 2 x := fun x hx => by
            have := r1 x hx
            rw [rwC_at _ hw] at this
            exact this
          have hL1 : CLs m1 w z1 (acc ++ [(s a, (V, T))]) := by
            refine ⟨by rw [b10, List.length_append]; rfl, fun q hq => ?_, fun j x hj => ?_⟩
            · rcases r8 q with y | y
              · rw [y, rwC_at _ hw]; exact l8 q hq
              · exact .inr y
            · by_cases e : j < acc.length
              · rw [List.getElem?_append_left e] at hj
                refine CKl_keep (lK j x hj) hzz r1' (fun q q1 q2 => ?_) (fun q => ?_)
                · rw [r2 j (by omega) q q1 q2, rwC_at _ hw]
                · have := r8 q
                  rw [rwC_at _ hw] at this
                  exact this
              · rw [List.getElem?_append_right (by omega)] at hj
                have ej : j = acc.length := by
                  by_cases y : j - acc.length = 0
                  · omega
                  · rw [List.getElem?_eq_none (by simp only [List.length_singleton]; omega)] at hj
                    cases hj
                subst ej
                rw [Nat.sub_self] at hj
                cases hj
                exact bK
          have lenA : (acc ++ [(s a, (V, T))]).length = acc.length + 1 := by rw [List.length_append]; rfl
          have g3 : gI m1 193 3 = nI p := h2.2.1
          have g2 : gI m1 193 2 = nI n := h2.1.2.2.2.1
          rw [bS_r]
          by_cases cpn : p = n
          · rw [iT_pos cpn]
            refine ⟨fun e y => (by cases y), fun p' L y => ?_⟩
            cases y
            refine ⟨m1, z1, fun o => ?_, Fr_trans F01 a2, by have := h2.2.2.2.1; omega, hL1, by rw [lenA]; omega, by rw [lenA]; omega⟩
            rw [base3, a1, bnd_mk]
            unfold f_X4_clauses_64
            rw [if_neg (by decide), g3, g2, if_pos (by rw [cpn])]
            simp (config := {decide := true}) only [shT_193 S2, ne_eq, not_false_eq_true, and_self, and_true, true_and, and_false, false_and, true_or, or_true, false_or, or_false, not_true_eq_false, if_false, if_true]
          · rw [iT_neg cpn]
            have npn : ¬ nI p = nI n := fun y => cpn ((nI_eq (by omega) (by omega)).mp y)
            obtain ⟨x1, x2⟩ := e_expect h2.1 hpn g3 (ch := 59) (by omega) (by omega)
            have x1 : s p = 59 → ∀ o, F_X4_expect 193 59 m1 o = (1, sI m1 193 3 (nI (p + 1)), o) := x1
            have x2 : ¬ s p = 59 → ∀ o, F_X4_expect 193 59 m1 o = (0, sI m1 193 4 1, o) := x2
            by_cases c59 : s p = 59
            · rw [iT_pos c59]
              have hpn' : p < n := lt_of_sg hz0 (by omega)
              obtain ⟨j1, j2⟩ := ih N (acc ++ [(s a, (V, T))]) (p + 1) z1 (sI m1 193 3 (nI (p + 1))) (by rw [lenA]; omega) (by rw [lenA]; omega) (by omega) (CS_at h2 hpn') (by
                obtain ⟨y1, y2, y3⟩ := hL1
                exact ⟨by rw [gI_sI, if_neg (fun y => w1 y.1)]; exact y1, by rw [rwC_at _ hw]; exact y2, by rw [rwC_at _ hw]; exact y3⟩)
              have base4 : ∀ o, f_X4_clauses_2 (N + 1) 193 (nI acc.length) m o = f_X4_clauses_2 N 193 (nI (acc ++ [(s a, (V, T))]).length) (sI m1 193 3 (nI (p + 1))) o := fun o => by
                rw [base3, a1, bnd_mk]
                unfold f_X4_clauses_64
                rw [if_neg (by decide), g3, g2, if_neg npn, x1 c59, bnd_mk]
                unfold f_X4_clauses_88
                rw [if_neg (by decide), nI_1, lenA]
                simp (config := {decide := true}) only [shT_193 S2, ne_eq, not_false_eq_true, and_self, and_true, true_and, and_false, false_and, true_or, or_true, false_or, or_false, not_true_eq_false, if_false, if_true]
              have F12 : Fr (clP w) m (sI m1 193 3 (nI (p + 1))) := Fr_trans F01 (Fr_trans a2 (Fr_mono (Fr_at3 (w := w) (z := 0) _) (fun q i y => clP_cf y)))
              refine ⟨fun e y => ?_, fun p' L y => ?_⟩
              · obtain ⟨m', c1, c2, c3⟩ := j1 e y
                exact ⟨m', fun o => by rw [base4]; exact c1 o, Fr_trans F12 c2, c3⟩
              · obtain ⟨m', z', c1, c2, c3⟩ := j2 p' L y
                exact ⟨m', z', fun o => by rw [base4]; exact c1 o, Fr_trans F12 c2, c3⟩
            · rw [iT_neg c59]
              refine ⟨fun e y => ?_, fun p L y => (by cases y)⟩
              cases y
              refine ⟨sI m1 193 4 1, fun o => ?_, Fr_trans F01 (Fr_trans a2 (Fr_mono (Fr_at4 (w := w) (z := 0) _) (fun q i y => clP_cf y))), by rw [gI_sI, if_pos ⟨rfl, rfl⟩]; rfl, by rw [gI_sI, if_neg (by omega)]; exact g3⟩
              rw [base3, a1, bnd_mk]
              unfold f_X4_clauses_64
              rw [if_neg (by decide), g3, g2, if_neg npn, x2 c59, bnd_mk]
              unfold f_X4_clauses_88
              rw [if_pos rfl]
              simp (config := {decide := true}) only [shT_193 S2, ne_eq, not_false_eq_true, and_self, and_true, true_and, and_false, false_and, true_or, or_true, false_or, or_false, not_true_eq_false, if_false, if_true]
    · rw [iT_neg ck]
      refine ⟨fun e y => ?_, fun p L y => (by cases y)⟩
      cases y
      refine ⟨sI m 193 4 1, fun o => ?_, Fr_mono (Fr_at4 (w := w) (z := 0) _) (fun q i y => clP_cf y), by rw [gI_sI, if_pos ⟨rfl, rfl⟩]; rfl, by rw [gI_sI, if_neg (by omega)]; exact h3⟩
      rw [base]
      unfold f_X4_clauses_12
      simp only [g110, g101, g103]
      unfold isKd at ck
      rw [if_neg (by omega), if_neg (by omega), if_neg (by omega), e_fail hSh, bnd_mk]
      unfold f_X4_clauses_36
      simp (config := {decide := true}) only [shT_193 hSh, ne_eq, not_false_eq_true, and_self, and_true, true_and, and_false, false_and, true_or, or_true, false_or, or_false, not_true_eq_false, if_false, if_true]
theorem l_clear {w : Nat} (hw : isW w) : ∀ (k N x : Nat) (m : Mm), Sh m → x + k = 10 → k < N → (∀ q, q < x → gI m (w + 8) q = 0) → ∃ m', (∀ o, f_X3_clear_12 N w (nI x) m o = ((), m', o)) ∧ Fr (fun q y => q = w + 8) m m' ∧ ∀ q, q < 10 → gI m' (w + 8) q = 0 := by
  intro k
  induction k with
  | zero =>
    intro N x m h hx hN hq
    obtain ⟨N, rfl⟩ : ∃ N1, N = N1 + 1 := ⟨N - 1, by omega⟩
    refine ⟨m, fun o => ?_, Fr_refl _ _, fun q hq' => hq q (by omega)⟩
    show f_X3_clear_12b (f_X3_clear_12 N) w (nI x) m o = _
    unfold f_X3_clear_12b
    rw [if_pos (show (10 : Int32) ≤ nI x from nI_le (a := 10) (by omega) (by omega))]
  | succ k ih =>
    intro N x m h hx hN hq
    obtain ⟨N, rfl⟩ : ∃ N1, N = N1 + 1 := ⟨N - 1, by omega⟩
    obtain ⟨t0, -, -, -, -, -, -, -, r7, -⟩ := w_sh h hw
    obtain ⟨-, -, -, -, -, -, -, T8, -⟩ := w_T h hw
    obtain ⟨-, -, -, -, -, -, -, N8, -⟩ := w_N h hw
    have i1 : vp_in (nI x) 10 := vp_in_nI (by omega) (by omega)
    have a8 : ¬ w + 8 = 0 := by omega
    obtain ⟨m', b1, b2, b3⟩ := ih N (x + 1) (sI m (w + 8) x 0) (Sh_sI h _ _ _) (by omega) (by omega) (fun q hq' => by
      rw [gI_sI]
      by_cases e : q = x
      · rw [if_pos ⟨rfl, e⟩]
      · rw [if_neg (fun y => e y.2)]
        exact hq q (by omega))
    refine ⟨m', fun o => ?_, Fr_trans (Fr_sI (P := fun q y => q = w + 8) (Fr_refl _ m) (by rfl) _) b2, b3⟩
    show f_X3_clear_12b (f_X3_clear_12 N) w (nI x) m o = _
    unfold f_X3_clear_12b f_X3_clear_25
    rw [if_neg (show ¬ (10 : Int32) ≤ nI (x) from nI_ge (a := x) (b := 10) (by omega) (by omega)), nI_1]
    simp (config := {decide := true}) only [t0, r7, T8, N8, i1, a8, ix_nI (show x < 2 ^ 31 by omega), b1, ne_eq, not_false_eq_true, and_self, and_true, true_and, and_false, false_and, true_or, or_true, false_or, or_false, not_true_eq_false, if_false, if_true]
theorem e_clear {w : Nat} (hw : isW w) {m : Mm} (h : Sh m) : ∃ m', (∀ o, F_X3_clear w m o = ((), m', o)) ∧ Fr (clP w) m m' ∧ gI m' w 9 = 0 ∧ gI m' w 10 = 0 ∧ ∀ q, q < 10 → gI m' (w + 8) q = 0 := by
  obtain ⟨m', b1, b2, b3⟩ := l_clear hw 10 1000 0 (sI (sI m w 9 0) w 10 0) (Sh_sI (Sh_sI h _ _ _) _ _ _) (by omega) (by omega) (fun q hq => by omega)
  obtain ⟨t0, -⟩ := w_sh h hw
  have b1 : ∀ o, f_X3_clear_12 1000 w 0 (sI (sI m w 9 0) w 10 0) o = ((), m', o) := b1
  refine ⟨m', fun o => ?_, Fr_trans (Fr_sI (Fr_sI (Fr_refl _ m) (by unfold clP; omega) _) (by unfold clP; omega) _) (Fr_mono b2 (fun q i y => by unfold clP; omega)), by rw [Fr_at b2 (by omega), gI_sI, if_neg (by omega), gI_sI, if_pos ⟨rfl, rfl⟩], by rw [Fr_at b2 (by omega), gI_sI, if_pos ⟨rfl, rfl⟩], b3⟩
  simp (config := {decide := true}) only [F_X3_clear, f_X3_clear_0, f_X3_clear_5, f_X3_clear_10, gT_sI, t0, b1, ne_eq, not_false_eq_true, and_self, and_true, true_and, and_false, false_and, true_or, or_true, false_or, or_false, not_true_eq_false, if_false, if_true]
theorem Sh_sR {m : Mm} (h : Sh m) {q i : Nat} (hq : (tRl.all (fun t => !(decide (t.1 = q) && decide (t.2.1 = i)))) = true) (v : Nat) : Sh (sR m q i v) := by
  obtain ⟨h1, h2, h3, h4⟩ := h
  refine ⟨h1, h2, fun t ht => ?_, h4⟩
  rw [gR_sR, if_neg]
  · exact h3 t ht
  · rintro ⟨a, b⟩
    have := List.all_eq_true.mp hq t ht
    rw [decide_eq_true a, decide_eq_true b] at this
    exact absurd this (by decide)
def rtP (w q i : Nat) : Prop := clP w q i ∨ (q = 193 ∧ i = 2)
theorem e_readInto {w n : Nat} {s : Nat → Nat} (hw : isW w) {m : Mm} (h : Sh m) (hn : n ≤ 200) (ht : ∀ x, x < n → gI m 192 x = nI (s x) ∧ s x < 256) (hz : ∀ x, n ≤ x → s x = 0) : (∀ e, sLs s n 15 [] 0 = .inl e → ∃ m', (∀ o, F_X4_readInto 193 w (nI n) m o = (-1000 * nI e.1 - nI e.2, m', o)) ∧ Fr (rtP w) (sR m 193 1 w) m') ∧ (∀ p L, sLs s n 15 [] 0 = .inr (p, L) → ∃ m' z', (∀ o, F_X4_readInto 193 w (nI n) m o = (nI L.length, m', o)) ∧ Fr (rtP w) (sR m 193 1 w) m' ∧ z' ≤ 200 ∧ CLs m' w z' L ∧ L.length ≤ 14 ∧ 0 < L.length) := by
  obtain ⟨w1, w2, w3, w4⟩ := w_ne hw
  have S0 : Sh (sR m 193 1 w) := Sh_sR h (by decide +kernel) w
  obtain ⟨t0, -⟩ := w_sh S0 hw
  obtain ⟨m1, c1, c2, c3, c4, c5⟩ := e_clear hw S0
  have S1 := Fr_Sh c2 S0
  have e2 : ∃ m2, m2 = sI (sI (sI m1 193 2 (nI n)) 193 3 0) 193 4 0 := ⟨_, rfl⟩
  obtain ⟨m2, e2⟩ := e2
  have g : ∀ q i, gI m2 q i = if q = 193 ∧ i = 4 then 0 else if q = 193 ∧ i = 3 then 0 else if q = 193 ∧ i = 2 then nI n else gI m1 q i := fun q i => by rw [e2, gI_sI, gI_sI, gI_sI]
  have F2 : Fr (rtP w) (sR m 193 1 w) m2 := Fr_trans (Fr_mono c2 (fun q i y => .inl y)) ⟨by rw [e2]; rfl, fun q i y => by
    rw [g, if_neg (fun z => y (.inl (.inl ⟨z.1, .inr z.2⟩))), if_neg (fun z => y (.inl (.inl ⟨z.1, .inl z.2⟩))), if_neg (fun z => y (.inr z))]⟩
  have hB : CB m2 w n s := by
    refine ⟨Fr_Sh F2 S0, hw, ?_, ?_, hn, fun x hx => ?_, hz⟩
    · rw [Fr_R F2, gR_sR, if_pos ⟨rfl, rfl⟩]
    · rw [g, if_neg (by omega), if_neg (by omega), if_pos ⟨rfl, rfl⟩]
    · rw [Fr_at F2 (by unfold rtP clP; rcases hw with rfl | rfl <;> omega)]
      exact ht x hx
  have hC : CS m2 w n s 0 0 := ⟨hB, by rw [g, if_neg (by omega), if_pos ⟨rfl, rfl⟩]; rfl, by rw [g, if_neg (fun y => w1 y.1), if_neg (fun y => w1 y.1), if_neg (fun y => w1 y.1), c3]; rfl, Nat.le_refl _, Nat.zero_le _⟩
  have hL : CLs m2 w 0 [] := ⟨by rw [g, if_neg (fun y => w1 y.1), if_neg (fun y => w1 y.1), if_neg (fun y => w1 y.1), c4]; rfl, fun q hq => .inl (by
    show gI m2 (w + 8) q = 0
    have n8 : w + 8 ≠ 193 := by rcases hw with rfl | rfl <;> omega
    rw [g, if_neg (fun y => n8 y.1), if_neg (fun y => n8 y.1), if_neg (fun y => n8 y.1)]
    exact c5 q hq), fun j x y => by cases y⟩
  obtain ⟨j1, j2⟩ := l_clausesC 15 1000 [] 0 0 m2 (by show 0 ≤ 14; omega) rfl (by omega) hC hL
  have base : ∀ o, F_X4_readInto 193 w (nI n) m o = bnd (f_X4_clauses_2 1000 193 (nI ([] : KL).length) m2 o) (fun v1 m1 o1 => f_X4_readInto_31 193 v1 m1 o1) := fun o => by
    have gr : gR (sR m 193 1 w) 193 1 = w := by rw [gR_sR, if_pos ⟨rfl, rfl⟩]
    unfold F_X4_readInto f_X4_readInto_0 f_X4_readInto_5
    rw [gr, c1, bnd_mk]
    unfold f_X4_readInto_12 f_X4_readInto_17 f_X4_readInto_22 f_X4_readInto_27
    rw [← e2]
    have S2 := hB.1
    simp (config := {decide := true}) only [gT_sI, gT_sR, shT_193 h, shT_193 S1, shT_193 S2, t0, show gT m w = 4 from t0, w4, ne_eq, not_false_eq_true, and_self, and_true, true_and, and_false, false_and, true_or, or_true, false_or, or_false, not_true_eq_false, if_false, if_true]
    rfl
  refine ⟨fun e y => ?_, fun p L y => ?_⟩
  · obtain ⟨m', d1, d2, d3, d4⟩ := j1 e y
    refine ⟨m', fun o => ?_, Fr_trans F2 (Fr_mono d2 (fun q i y => .inl y))⟩
    have S3 := Fr_Sh d2 hB.1
    rw [base, d1, bnd_mk]
    unfold f_X4_readInto_31 f_X4_readInto_57
    rw [if_pos rfl, d3, d4]
    simp (config := {decide := true}) only [shT_193 S3, ne_eq, not_false_eq_true, and_self, and_true, true_and, and_false, false_and, true_or, or_true, false_or, or_false, not_true_eq_false, if_false, if_true]
  · obtain ⟨m', z', d1, d2, d3, d4, d5, d6⟩ := j2 p L y
    refine ⟨m', z', fun o => ?_, Fr_trans F2 (Fr_mono d2 (fun q i y => .inl y)), d3, d4, d5, d6⟩
    have S3 := Fr_Sh d2 hB.1
    have hr3 : gR m' 193 1 = w := by rw [Fr_R d2]; exact hB.2.2.1
    obtain ⟨t3, -⟩ := w_sh S3 hw
    rw [base, d1, bnd_mk]
    unfold f_X4_readInto_31 f_X4_readInto_57
    rw [if_neg (by decide), hr3, d4.1]
    simp (config := {decide := true}) only [shT_193 S3, t3, w4, ne_eq, not_false_eq_true, and_self, and_true, true_and, and_false, false_and, true_or, or_true, false_or, or_false, not_true_eq_false, if_false, if_true]

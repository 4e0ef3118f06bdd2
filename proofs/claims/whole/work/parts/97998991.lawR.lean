/-! ===== the other side reads the whole text ===== -/
theorem CKR_keep {D D' : Nat → Nat → Int32} {z z' j : Nat} {x : Nat × VE × VC} (h : CKR D z x j) (hz : z ≤ z') (h1 : ∀ y, y < z → D' 4 y = D 4 y ∧ D' 5 y = D 5 y) (h2 : ∀ q, q ≤ 3 → D' q j = D q j) : CKR D' z' x j := by
  obtain ⟨sf, f, t, e0, e1, e2, e3, b1, b2, b3, b4, b5⟩ := h
  exact ⟨sf, f, t, (h2 0 (by omega)).trans e0, (h2 1 (by omega)).trans e1, (h2 2 (by omega)).trans e2, (h2 3 (by omega)).trans e3, b1, b2, by omega, RE_congr b4 (fun y _ b => h1 y (by omega)), fun y => RE_congr (b5 y) (fun y _ b => h1 y (by omega))⟩
theorem w_end0 {m : Mm} (N : Nat) (o : Prop) : f_X12_law_54 (N + 1) 225 0 m o = f_X12_law_128 225 m o := by
  show f_X12_law_54b (f_X12_law_54 N) 225 0 m o = _
  unfold f_X12_law_54b
  rw [if_pos rfl]
theorem w_128b {m : Mm} (hS : Sh m) (h37 : ¬ 0 ≤ gI m 225 37) (o : Prop) : f_X12_law_128 225 m o = (gI m 225 37, m, o) := by
  unfold f_X12_law_128
  rw [if_neg h37]
  simp (config := {decide := true}) only [shT_225 hS, ne_eq, not_false_eq_true, and_self, and_true, true_and, and_false, false_and, true_or, or_true, false_or, or_false, not_true_eq_false, if_false, if_true]
theorem w_128g {m : Mm} (hS : Sh m) (h37 : gI m 225 37 = 0) (o : Prop) : f_X12_law_128 225 m o = f_X12_law_142 1000 225 0 m o := by
  unfold f_X12_law_128
  rw [h37, if_pos (by decide)]
  simp (config := {decide := true}) only [shT_225 hS, ne_eq, not_false_eq_true, and_self, and_true, true_and, and_false, false_and, true_or, or_true, false_or, or_false, not_true_eq_false, if_false, if_true]
theorem w_bad1 {m : Mm} (hS : Sh m) (h37 : ¬ gI m 225 37 = 0) (N : Nat) (o : Prop) : f_X12_law_54 (N + 1) 225 1 m o = f_X12_law_128 225 m o := by
  show f_X12_law_54b (f_X12_law_54 N) 225 1 m o = _
  unfold f_X12_law_54b
  rw [if_neg (by decide), e_bad hS h37, bnd_mk]
  unfold f_X12_law_62
  rw [if_pos rfl]
  simp (config := {decide := true}) only [shT_225 hS, ne_eq, not_false_eq_true, and_self, and_true, true_and, and_false, false_and, true_or, or_true, false_or, or_false, not_true_eq_false, if_false, if_true]
theorem law_semi {m1 : Mm} (S1 : Sh m1) {q b v : Int32} (k35 : gI m1 225 35 = q) (hw : ∀ o, F_X12_wrongs 225 1 q m1 o = ((), sI m1 225 37 b, o)) (hb : ¬ 0 ≤ b ∧ ¬ b = 0) (hne : ¬ v = 59) {N : Nat} (o : Prop) : f_X12_law_101 (f_X12_law_54 (N + 1)) 225 1 v m1 o = (b, sI (sI m1 225 37 b) 225 35 (q + 1), o) := by
  have S2 : Sh (sI m1 225 37 b) := Sh_sI S1 _ _ _
  have S3 : Sh (sI (sI m1 225 37 b) 225 35 (q + 1)) := Sh_sI S2 _ _ _
  have t0 : gT m1 225 = 12 := shT_225 S1
  have t1 : gT (sI m1 225 37 b) 225 = 12 := shT_225 S2
  have q35 : gI (sI m1 225 37 b) 225 35 = q := by rw [gI_sI, if_neg (by omega)]; exact k35
  have g37 : gI (sI (sI m1 225 37 b) 225 35 (q + 1)) 225 37 = b := by rw [gI_sI, if_neg (by omega), gI_sI, if_pos ⟨rfl, rfl⟩]
  unfold f_X12_law_101
  rw [if_neg hne, k35, hw, bnd_mk]
  unfold f_X12_law_115 f_X12_law_125
  rw [q35, w_bad1 S3 (by rw [g37]; exact hb.2), w_128b S3 (by rw [g37]; exact hb.1), g37]
  simp only [t0, t1, and_true]
theorem l_lawR {n : Nat} {s : Nat → Nat} : ∀ (k N : Nat) (acc : KL) (a c : Nat) (m : Mm), acc.length ≤ 14 → acc.length + k = 15 → k + 1 < N → LSt m n s a c acc.length → (∀ j x, acc[j]? = some x → CKR (rwD m) c x j) → (∀ e, sLs s n k acc a = .inl e → (1 ≤ e.1 ∧ e.1 ≤ 5 ∧ e.2 ≤ 200) ∧ ∃ m', (∀ o, f_X12_law_54 N 225 1 m o = (bdv e, m', o)) ∧ Fr rfL m m') ∧ (∀ p L, sLs s n k acc a = .inr (p, L) → ∃ m' c', (∀ o, f_X12_law_54 N 225 1 m o = f_X12_law_142 1000 225 0 m' o) ∧ Fr rfL m m' ∧ gI m' 225 38 = nI L.length ∧ gI m' 225 39 = nI c' ∧ c' ≤ 200 ∧ L.length ≤ 14 ∧ ∀ j x, L[j]? = some x → CKR (rwD m') c' x j) := by
  intro k
  induction k with
  | zero =>
    intro N acc a c m h14 hk
    omega
  | succ k ih =>
    intro N acc a c m h14 hk hN hL hK
    obtain ⟨N, rfl⟩ : ∃ N', N = N' + 2 := ⟨N - 2, by omega⟩
    obtain ⟨hB, h35, h37, h39, h38, b1, b2⟩ := id hL
    have hS := hB.1
    have hn := hB.2.2.1
    have hz := hB.2.2.2.2
    have hs := RB_256 hB a
    have hh := fun o => e_hereB hB (show a ≤ 210 by omega) h35 o
    have c1 : (nI (s a) = 110) = (s a = 110) := propext (nI_eq (b := 110) (by omega) (by omega))
    have c2 : (nI (s a) = 101) = (s a = 101) := propext (nI_eq (b := 101) (by omega) (by omega))
    have c3 : (nI (s a) = 103) = (s a = 103) := propext (nI_eq (b := 103) (by omega) (by omega))
    have base : ∀ o, f_X12_law_54 (N + 2) 225 1 m o = bnd (F_X12_clause 225 m o) (fun _ m1 o1 => f_X12_law_69 (f_X12_law_54 (N + 1)) 225 m1 o1) := fun o => by
      show f_X12_law_54b (f_X12_law_54 (N + 1)) 225 1 m o = _
      unfold f_X12_law_54b
      rw [if_neg (by decide), e_good hS h37, bnd_mk]
      unfold f_X12_law_62
      rw [if_neg (by decide)]
      simp (config := {decide := true}) only [shT_225 hS, ne_eq, not_false_eq_true, and_self, and_true, true_and, and_false, false_and, true_or, or_true, false_or, or_false, not_true_eq_false, if_false, if_true]
    have fail : ∀ m' e, (∀ o, F_X12_clause 225 m o = ((), m', o)) → LF m m' e → (1 ≤ e.1 ∧ e.1 ≤ 5 ∧ e.2 ≤ 200) ∧ ∃ m2, (∀ o, f_X12_law_54 (N + 2) 225 1 m o = (bdv e, m2, o)) ∧ Fr rfL m m2 := fun m' e x1 x2 => by
      have S1 := Fr_Sh x2.1 hS
      obtain ⟨y1, y2⟩ := LF_bad x2
      refine ⟨x2.2.2, m', fun o => ?_, x2.1⟩
      rw [base, x1, bnd_mk]
      unfold f_X12_law_69
      rw [e_bad S1 y1, bnd_mk]
      unfold f_X12_law_73
      rw [if_pos rfl]
      unfold f_X12_law_91 f_X12_law_92
      rw [if_pos rfl, w_end0, w_128b S1 y2, x2.2.1]
      simp (config := {decide := true}) only [shT_225 S1, ne_eq, not_false_eq_true, and_self, and_true, true_and, and_false, false_and, true_or, or_true, false_or, or_false, not_true_eq_false, if_false, if_true]
    unfold sLs
    by_cases ck : isKd (s a)
    · rw [iT_pos ck]
      by_cases c14 : acc.length = 14
      · rw [iT_pos c14]
        refine ⟨fun e y => ?_, fun p L y => (by cases y)⟩
        cases y
        have lf : LF m (sI m 225 37 (bdv (4, a))) (4, a) := ⟨Fr_sI (Fr_refl _ m) (by unfold rfL rfA; omega) _, by rw [gI_sI, if_pos ⟨rfl, rfl⟩], by show 1 ≤ 4; omega, by show 4 ≤ 5; omega, by show a ≤ 200; omega⟩
        have S1 : Sh (sI m 225 37 (bdv (4, a))) := Sh_sI hS _ _ _
        refine fail _ _ (fun o => ?_) lf
        have hw : ∀ o, F_X12_wrongs 225 4 (nI a) m o = ((), sI m 225 37 (bdv (4, a)), o) := fun o => e_wrongs hS h37 4 a o
        have e35 : ∀ o, f_X12_clause_35 225 (nI (s a)) m o = ((), sI m 225 37 (bdv (4, a)), o) := fun o => by
          unfold f_X12_clause_35
          rw [h38, if_pos (by rw [c14]; rfl), h35, hw, bnd_mk]
          unfold f_X12_clause_53
          rw [e_bad S1 (LF_bad lf).1, bnd_mk]
          unfold f_X12_clause_57
          rw [if_pos rfl]
          simp (config := {decide := true}) only [gT_sI, shT_225 hS, shT_225 S1, ne_eq, not_false_eq_true, and_self, and_true, true_and, and_false, false_and, true_or, or_true, false_or, or_false, not_true_eq_false, if_false, if_true]
        unfold F_X12_clause f_X12_clause_0
        rw [hh, bnd_mk]
        unfold f_X12_clause_4
        simp only [c1, c2, c3, e35]
        rcases ck with y | y | y
        · rw [if_pos y]
          simp (config := {decide := true}) only [shT_225 hS, ne_eq, not_false_eq_true, and_self, and_true, true_and, and_false, false_and, true_or, or_true, false_or, or_false, not_true_eq_false, if_false, if_true]
        · rw [if_neg (by omega), if_pos y]
          simp (config := {decide := true}) only [shT_225 hS, ne_eq, not_false_eq_true, and_self, and_true, true_and, and_false, false_and, true_or, or_true, false_or, or_false, not_true_eq_false, if_false, if_true]
        · rw [if_neg (by omega), if_neg (by omega), if_pos y]
          simp (config := {decide := true}) only [shT_225 hS, ne_eq, not_false_eq_true, and_self, and_true, true_and, and_false, false_and, true_or, or_true, false_or, or_false, not_true_eq_false, if_false, if_true]
      · rw [iT_neg c14]
        obtain ⟨k1, k2⟩ := e_clauseR hL (by omega) ck
        cases hfa : sKl s (s a) (a + 1) with
        | inl e =>
          obtain ⟨m', x1, x2⟩ := k1 e hfa
          rw [bS_l]
          refine ⟨fun e' y => ?_, fun p L y => (by cases y)⟩
          cases y
          exact fail m' e x1 x2
        | inr qq =>
          obtain ⟨p, V, T⟩ := qq
          obtain ⟨m1, c', x1, F1, L1, hcc, xK, r4, r3⟩ := k2 p V T hfa
          obtain ⟨hB1, k35, k37, k39, k38, d1, d2⟩ := id L1
          have S1 := hB1.1
          have hs1 := RB_256 hB1 p
          have lenA : (acc ++ [(s a, (V, T))]).length = acc.length + 1 := by rw [List.length_append]; rfl
          have hK1 : ∀ j x, (acc ++ [(s a, (V, T))])[j]? = some x → CKR (rwD m1) c' x j := fun j x hj => by
            by_cases e : j < acc.length
            · rw [List.getElem?_append_left e] at hj
              exact CKR_keep (hK j x hj) hcc r4 (fun q hq => r3 j (by omega) q hq)
            · rw [List.getElem?_append_right (by omega)] at hj
              have ej : j = acc.length := by
                by_cases y : j - acc.length = 0
                · omega
                · rw [List.getElem?_eq_none (by simp only [List.length_singleton]; omega)] at hj
                  cases hj
              subst ej
              rw [Nat.sub_self] at hj
              cases hj
              exact xK
          have base2 : ∀ o, f_X12_law_54 (N + 2) 225 1 m o = f_X12_law_73 (f_X12_law_54 (N + 1)) 225 1 m1 o := fun o => by
            rw [base, x1, bnd_mk]
            unfold f_X12_law_69
            rw [e_good S1 k37, bnd_mk]
            simp (config := {decide := true}) only [shT_225 S1, ne_eq, not_false_eq_true, and_self, and_true, true_and, and_false, false_and, true_or, or_true, false_or, or_false, not_true_eq_false, if_false, if_true]
          have k36 : gI m1 225 36 = nI n := hB1.2.1
          rw [bS_r]
          by_cases cpn : p = n
          · rw [iT_pos cpn]
            refine ⟨fun e y => (by cases y), fun p' L y => ?_⟩
            cases y
            refine ⟨m1, c', fun o => ?_, F1, by rw [lenA]; exact k38, k39, by omega, by rw [lenA]; omega, hK1⟩
            rw [base2]
            unfold f_X12_law_73
            rw [if_neg (by decide), k36, k35, if_pos (nI_le (by omega) (by omega))]
            unfold f_X12_law_91 f_X12_law_92
            rw [if_pos rfl, w_end0, w_128g S1 k37]
            simp (config := {decide := true}) only [shT_225 S1, ne_eq, not_false_eq_true, and_self, and_true, true_and, and_false, false_and, true_or, or_true, false_or, or_false, not_true_eq_false, if_false, if_true]
          · rw [iT_neg cpn]
            have hh1 := fun o => e_hereB hB1 (show p ≤ 210 by omega) k35 o
            have e59 : (nI (s p) = 59) = (s p = 59) := propext (nI_eq (b := 59) (by omega) (by omega))
            have base3 : ∀ o, f_X12_law_54 (N + 2) 225 1 m o = f_X12_law_101 (f_X12_law_54 (N + 1)) 225 1 (nI (s p)) m1 o := fun o => by
              rw [base2]
              unfold f_X12_law_73
              rw [if_neg (by decide), k36, k35, if_neg (nI_ge (by omega) (by omega))]
              unfold f_X12_law_92
              rw [if_neg (by decide), hh1, bnd_mk]
              simp (config := {decide := true}) only [shT_225 S1, ne_eq, not_false_eq_true, and_self, and_true, true_and, and_false, false_and, true_or, or_true, false_or, or_false, not_true_eq_false, if_false, if_true]
            by_cases c59 : s p = 59
            · rw [iT_pos c59]
              have F2 : Fr rfL m1 (sI m1 225 35 (nI (p + 1))) := Fr_sI (Fr_refl _ m1) (by unfold rfL rfA; omega) _
              have L2 : LSt (sI m1 225 35 (nI (p + 1))) n s (p + 1) c' (acc ++ [(s a, (V, T))]).length := ⟨RB_FrL hB1 F2, by rw [gI_sI, if_pos ⟨rfl, rfl⟩], by rw [gI_sI, if_neg (by omega)]; exact k37, by rw [gI_sI, if_neg (by omega)]; exact k39, by rw [gI_sI, if_neg (by omega), lenA]; exact k38, by omega, by omega⟩
              have rwE : rwD (sI m1 225 35 (nI (p + 1))) = rwD m1 := by
                funext q x
                show gI (sI m1 225 35 (nI (p + 1))) (247 + q) x = gI m1 (247 + q) x
                rw [gI_sI, if_neg (by omega)]
              obtain ⟨j1, j2⟩ := ih (N + 1) (acc ++ [(s a, (V, T))]) (p + 1) c' (sI m1 225 35 (nI (p + 1))) (by rw [lenA]; omega) (by rw [lenA]; omega) (by omega) L2 (by rw [rwE]; exact hK1)
              have base4 : ∀ o, f_X12_law_54 (N + 2) 225 1 m o = f_X12_law_54 (N + 1) 225 1 (sI m1 225 35 (nI (p + 1))) o := fun o => by
                rw [base3]
                unfold f_X12_law_101
                rw [if_pos (by rw [e59]; exact c59)]
                unfold f_X12_law_115 f_X12_law_125
                rw [k35, nI_1]
                simp (config := {decide := true}) only [shT_225 S1, ne_eq, not_false_eq_true, and_self, and_true, true_and, and_false, false_and, true_or, or_true, false_or, or_false, not_true_eq_false, if_false, if_true]
              refine ⟨fun e y => ?_, fun p' L y => ?_⟩
              · obtain ⟨z1, m', z2, z3⟩ := j1 e y
                exact ⟨z1, m', fun o => by rw [base4]; exact z2 o, Fr_trans F1 (Fr_trans F2 z3)⟩
              · obtain ⟨m', cx, z2, z3, z4⟩ := j2 p' L y
                exact ⟨m', cx, fun o => by rw [base4]; exact z2 o, Fr_trans F1 (Fr_trans F2 z3), z4⟩
            · rw [iT_neg c59]
              refine ⟨fun e y => ?_, fun p L y => (by cases y)⟩
              cases y
              have em2 : ∃ m2, m2 = sI (sI m1 225 37 (bdv (1, p))) 225 35 (nI (p + 1)) := ⟨_, rfl⟩
              obtain ⟨m2, em2⟩ := em2
              have F2 : Fr rfL m1 m2 := by rw [em2]; exact Fr_sI (Fr_sI (Fr_refl _ m1) (by unfold rfL rfA; omega) _) (by unfold rfL rfA; omega) _
              have S2 := Fr_Sh F2 S1
              have g37 : gI m2 225 37 = bdv (1, p) := by rw [em2, gI_sI, if_neg (by omega), gI_sI, if_pos ⟨rfl, rfl⟩]
              have bn := bdv_neg (e := (1, p)) (by show 1 ≤ 1; omega) (by show 1 ≤ 5; omega) (by show p ≤ 200; omega)
              refine ⟨⟨by show 1 ≤ 1; omega, by show 1 ≤ 5; omega, by show p ≤ 200; omega⟩, m2, fun o => ?_, Fr_trans F1 F2⟩
              have hw : ∀ o, F_X12_wrongs 225 1 (nI p) m1 o = ((), sI m1 225 37 (bdv (1, p)), o) := fun o => e_wrongs S1 k37 1 p o
              have q35 : gI (sI m1 225 37 (bdv (1, p))) 225 35 = nI p := by rw [gI_sI, if_neg (by omega)]; exact k35
              rw [base3, law_semi S1 k35 hw bn (by rw [e59]; exact c59), nI_1, em2]
    · rw [iT_neg ck]
      refine ⟨fun e y => ?_, fun p L y => (by cases y)⟩
      cases y
      have lf : LF m (sI m 225 37 (bdv (1, a))) (1, a) := ⟨Fr_sI (Fr_refl _ m) (by unfold rfL rfA; omega) _, by rw [gI_sI, if_pos ⟨rfl, rfl⟩], by show 1 ≤ 1; omega, by show 1 ≤ 5; omega, by show a ≤ 200; omega⟩
      have S1 : Sh (sI m 225 37 (bdv (1, a))) := Sh_sI hS _ _ _
      refine fail _ _ (fun o => ?_) lf
      have hw : ∀ o, F_X12_wrongs 225 1 (nI a) m o = ((), sI m 225 37 (bdv (1, a)), o) := fun o => e_wrongs hS h37 1 a o
      unfold F_X12_clause f_X12_clause_0
      rw [hh, bnd_mk]
      unfold f_X12_clause_4
      simp only [c1, c2, c3]
      unfold isKd at ck
      rw [if_neg (by omega), if_neg (by omega), if_neg (by omega), h35, hw, bnd_mk]
      unfold f_X12_clause_32 f_X12_clause_53
      rw [e_bad S1 (LF_bad lf).1, bnd_mk]
      unfold f_X12_clause_57
      rw [if_pos rfl]
      simp (config := {decide := true}) only [gT_sI, shT_225 hS, shT_225 S1, ne_eq, not_false_eq_true, and_self, and_true, true_and, and_false, false_and, true_or, or_true, false_or, or_false, not_true_eq_false, if_false, if_true]
/-! the new rows become the law's -/
theorem l_206 {c k : Nat} (hc : c ≤ 200) : ∀ (d N x : Nat) (m : Mm), Sh m → gI m 225 39 = nI c → gI m 225 38 = nI k → x + d = c → d < N → (∀ i, i < x → gI m 245 i = gI m 251 i ∧ gI m 246 i = gI m 252 i) → ∃ m', (∀ o, f_X12_law_206 N 225 (nI x) m o = (nI k, m', o)) ∧ Fr (fun q i => q = 245 ∨ q = 246 ∨ (q = 225 ∧ i = 22)) m m' ∧ gI m' 225 22 = nI k ∧ ∀ i, i < c → gI m' 245 i = gI m 251 i ∧ gI m' 246 i = gI m 252 i := by
  intro d
  induction d with
  | zero =>
    intro N x m hS h39 h38 hx hN hi
    obtain ⟨N, rfl⟩ : ∃ N1, N = N1 + 1 := ⟨N - 1, by omega⟩
    refine ⟨sI m 225 22 (nI k), fun o => ?_, Fr_sI (P := fun q i => q = 245 ∨ q = 246 ∨ (q = 225 ∧ i = 22)) (Fr_refl _ m) (by omega) _, by rw [gI_sI, if_pos ⟨rfl, rfl⟩], fun i hi' => by rw [gI_sI, if_neg (by omega), gI_sI, if_neg (by omega)]; exact hi i (by omega)⟩
    show f_X12_law_206b (f_X12_law_206 N) 225 (nI x) m o = _
    unfold f_X12_law_206b f_X12_law_252
    rw [h39, if_pos (nI_le (by omega) (by omega)), h38, gI_sI, if_pos ⟨rfl, rfl⟩]
    simp (config := {decide := true}) only [gT_sI, shT_225 hS, ne_eq, not_false_eq_true, and_self, and_true, true_and, and_false, false_and, true_or, or_true, false_or, or_false, not_true_eq_false, if_false, if_true]
  | succ d ih =>
    intro N x m hS h39 h38 hx hN hi
    obtain ⟨N, rfl⟩ : ∃ N1, N = N1 + 1 := ⟨N - 1, by omega⟩
    have i1 : vp_in (nI x) 200 := vp_in_nI (by omega) (by omega)
    have em : ∃ m1, m1 = sI (sI m 245 x (gI m 251 x)) 246 x (gI m 252 x) := ⟨_, rfl⟩
    obtain ⟨m1, em⟩ := em
    have F1 : Fr (fun q i => q = 245 ∨ q = 246 ∨ (q = 225 ∧ i = 22)) m m1 := by rw [em]; exact Fr_sI (Fr_sI (P := fun q i => q = 245 ∨ q = 246 ∨ (q = 225 ∧ i = 22)) (Fr_refl _ m) (by omega) _) (by omega) _
    obtain ⟨m', b1, b2, b3, b4⟩ := ih N (x + 1) m1 (Fr_Sh F1 hS) (by rw [Fr_at F1 (by omega)]; exact h39) (by rw [Fr_at F1 (by omega)]; exact h38) (by omega) (by omega) (fun i hi' => by
      rw [Fr_at F1 (q := 251) (by omega), Fr_at F1 (q := 252) (by omega), em]
      by_cases e : i = x
      · subst e
        exact ⟨by rw [gI_sI, if_neg (by omega), gI_sI, if_pos ⟨rfl, rfl⟩], by rw [gI_sI, if_pos ⟨rfl, rfl⟩]⟩
      · exact ⟨by rw [gI_sI, if_neg (by omega), gI_sI, if_neg (by omega)]; exact (hi i (by omega)).1, by rw [gI_sI, if_neg (by omega), gI_sI, if_neg (by omega)]; exact (hi i (by omega)).2⟩)
    refine ⟨m', fun o => ?_, Fr_trans F1 b2, b3, fun i hi' => by
      obtain ⟨y1, y2⟩ := b4 i hi'
      rw [Fr_at F1 (by omega)] at y1 y2
      exact ⟨y1, y2⟩⟩
    show f_X12_law_206b (f_X12_law_206 N) 225 (nI x) m o = _
    unfold f_X12_law_206b
    rw [h39, if_neg (nI_ge (by omega) (by omega))]
    rw [em] at b1
    simp (config := {decide := true}) only [f_X12_law_226, f_X12_law_238, gT_sI, gN_sI, gR_sI, gI_sI, shT_225 hS, shR_225_27 hS, shR_225_28 hS, shR_225_33 hS, shR_225_34 hS, shT_245 hS, shN_245 hS, shT_246 hS, shN_246 hS, shT_251 hS, shN_251 hS, shT_252 hS, shN_252 hS, i1, ix_nI (show x < 2 ^ 31 by omega), nI_1, b1, ne_eq, not_false_eq_true, and_self, and_true, true_and, and_false, false_and, true_or, or_true, false_or, or_false, not_true_eq_false, if_false, if_true]
theorem l_142 {k : Nat} (hk : k ≤ 14) : ∀ (d N x : Nat) (m : Mm), Sh m → gI m 225 38 = nI k → x + d = k → d < N → (∀ t, t ≤ 3 → ∀ i, i < x → gI m (241 + t) i = gI m (247 + t) i) → ∃ m', (∀ o, f_X12_law_142 N 225 (nI x) m o = f_X12_law_206 1000 225 0 m' o) ∧ Fr (fun q i => 241 ≤ q ∧ q ≤ 244) m m' ∧ ∀ t, t ≤ 3 → ∀ i, i < k → gI m' (241 + t) i = gI m (247 + t) i := by
  intro d
  induction d with
  | zero =>
    intro N x m hS h38 hx hN hi
    obtain ⟨N, rfl⟩ : ∃ N1, N = N1 + 1 := ⟨N - 1, by omega⟩
    refine ⟨m, fun o => ?_, Fr_refl _ _, fun t ht i hi' => hi t ht i (by omega)⟩
    show f_X12_law_142b (f_X12_law_142 N) 225 (nI x) m o = _
    unfold f_X12_law_142b
    rw [h38, if_pos (nI_le (by omega) (by omega))]
    simp (config := {decide := true}) only [shT_225 hS, ne_eq, not_false_eq_true, and_self, and_true, true_and, and_false, false_and, true_or, or_true, false_or, or_false, not_true_eq_false, if_false, if_true]
  | succ d ih =>
    intro N x m hS h38 hx hN hi
    obtain ⟨N, rfl⟩ : ∃ N1, N = N1 + 1 := ⟨N - 1, by omega⟩
    have i1 : vp_in (nI x) 14 := vp_in_nI (by omega) (by omega)
    have em : ∃ m1, m1 = sI (sI (sI (sI m 241 x (gI m 247 x)) 242 x (gI m 248 x)) 243 x (gI m 249 x)) 244 x (gI m 250 x) := ⟨_, rfl⟩
    obtain ⟨m1, em⟩ := em
    have g : ∀ q i, gI m1 q i = if q = 244 ∧ i = x then gI m 250 x else if q = 243 ∧ i = x then gI m 249 x else if q = 242 ∧ i = x then gI m 248 x else if q = 241 ∧ i = x then gI m 247 x else gI m q i := fun q i => by rw [em, gI_sI, gI_sI, gI_sI, gI_sI]
    have F1 : Fr (fun q i => 241 ≤ q ∧ q ≤ 244) m m1 := ⟨by rw [em]; rfl, fun q i y => by rw [g, if_neg (by omega), if_neg (by omega), if_neg (by omega), if_neg (by omega)]⟩
    obtain ⟨m', b1, b2, b3⟩ := ih N (x + 1) m1 (Fr_Sh F1 hS) (by rw [Fr_at F1 (by omega)]; exact h38) (by omega) (by omega) (fun t ht i hi' => by
      rw [Fr_at F1 (q := 247 + t) (by omega)]
      by_cases e : i = x
      · subst e
        rcases (show t = 0 ∨ t = 1 ∨ t = 2 ∨ t = 3 by omega) with rfl | rfl | rfl | rfl
        · rw [g, if_neg (by omega), if_neg (by omega), if_neg (by omega), if_pos ⟨rfl, rfl⟩]
        · rw [g, if_neg (by omega), if_neg (by omega), if_pos ⟨rfl, rfl⟩]
        · rw [g, if_neg (by omega), if_pos ⟨rfl, rfl⟩]
        · rw [g, if_pos ⟨rfl, rfl⟩]
      · rw [g, if_neg (by omega), if_neg (by omega), if_neg (by omega), if_neg (by omega)]
        exact hi t ht i (by omega))
    refine ⟨m', fun o => ?_, Fr_trans F1 b2, fun t ht i hi' => by rw [b3 t ht i hi', Fr_at F1 (by omega)]⟩
    show f_X12_law_142b (f_X12_law_142 N) 225 (nI x) m o = _
    unfold f_X12_law_142b
    rw [h38, if_neg (nI_ge (by omega) (by omega))]
    rw [em] at b1
    simp (config := {decide := true}) only [f_X12_law_162, f_X12_law_174, f_X12_law_186, f_X12_law_198, gT_sI, gN_sI, gR_sI, gI_sI, shT_225 hS, shR_225_23 hS, shR_225_24 hS, shR_225_25 hS, shR_225_26 hS, shR_225_29 hS, shR_225_30 hS, shR_225_31 hS, shR_225_32 hS, shT_241 hS, shN_241 hS, shT_242 hS, shN_242 hS, shT_243 hS, shN_243 hS, shT_244 hS, shN_244 hS, shT_247 hS, shN_247 hS, shT_248 hS, shN_248 hS, shT_249 hS, shN_249 hS, shT_250 hS, shN_250 hS, i1, ix_nI (show x < 2 ^ 31 by omega), nI_1, b1, ne_eq, not_false_eq_true, and_self, and_true, true_and, and_false, false_and, true_or, or_true, false_or, or_false, not_true_eq_false, if_false, if_true]

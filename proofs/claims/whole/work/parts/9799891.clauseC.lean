/-! ===== clauses read by the class ===== -/
def isKd (c : Nat) : Prop := c = 110 ∨ c = 101 ∨ c = 103
def clP (w q i : Nat) : Prop := (q = 193 ∧ (i = 3 ∨ i = 4)) ∨ (q = w ∧ (i = 9 ∨ i = 10)) ∨ (w + 1 ≤ q ∧ q ≤ w + 6) ∨ q = w + 8
theorem clP_cf {w z q i : Nat} (h : cfP w z q i) : clP w q i := by unfold cfP at h; unfold clP; omega
theorem CB_Fr2 {m m' : Mm} {w n : Nat} {s : Nat → Nat} (h : CB m w n s) (hF : Fr (clP w) m m') : CB m' w n s := by
  obtain ⟨h1, h2, h3, h4, h5, h6, h7⟩ := h
  refine ⟨Fr_Sh hF h1, h2, by rw [Fr_R hF]; exact h3, ?_, h5, fun x hx => ?_, h7⟩
  · rw [Fr_at hF (by unfold clP; rcases h2 with rfl | rfl <;> omega)]; exact h4
  · rw [Fr_at hF (by unfold clP; rcases h2 with rfl | rfl <;> omega)]; exact h6 x hx
/-- the letters that a clause asks for are marked -/
theorem l_mask {w z c : Nat} (hw : isW w) (hz : z ≤ 200) (hc : c < 256) : ∀ (k N x : Nat) (m : Mm), Sh m → gI m w 9 = nI z → WfI (rwC m w) x z → x + k = z → k < N → ∃ m', (∀ o, f_X3_addClause_65 N w (nI c) (nI x) m o = ((), m', o)) ∧ Fr (fun q y => q = w + 8 ∧ y < 10) m m' ∧ (∀ q, gI m' (w + 8) q = gI m (w + 8) q ∨ gI m' (w + 8) q = -1) ∧ (c ≠ 103 → ∀ y, x ≤ y → y < z → gI m (w + 1) y = 2 → ∀ q, gI m (w + 2) y = nI q → q < 10 → gI m' (w + 8) q = -1) := by
  intro k
  induction k with
  | zero =>
    intro N x m h h9 hW hx hN
    obtain ⟨N, rfl⟩ : ∃ N1, N = N1 + 1 := ⟨N - 1, by omega⟩
    obtain ⟨t0, -⟩ := w_sh h hw
    refine ⟨m, fun o => ?_, Fr_refl _ _, fun q => .inl rfl, fun _ y a b => by omega⟩
    show f_X3_addClause_65b (f_X3_addClause_65 N) w (nI c) (nI x) m o = _
    unfold f_X3_addClause_65b f_X3_addClause_110
    rw [h9, if_pos (nI_le (by omega) (by omega))]
    simp (config := {decide := true}) only [t0, ne_eq, not_false_eq_true, and_self, and_true, true_and, and_false, false_and, true_or, or_true, false_or, or_false, not_true_eq_false, if_false, if_true]
  | succ k ih =>
    intro N x m h h9 hW hx hN
    obtain ⟨N, rfl⟩ : ∃ N1, N = N1 + 1 := ⟨N - 1, by omega⟩
    obtain ⟨t0, r0, r1, -, -, -, -, -, r7, -⟩ := w_sh h hw
    obtain ⟨T1, T2, -, -, -, -, -, T8, -⟩ := w_T h hw
    obtain ⟨N1, N2, -, -, -, -, -, N8, -⟩ := w_N h hw
    have i1 : vp_in (nI x) 200 := vp_in_nI (by omega) (by omega)
    have a1 : ¬ w + 1 = 0 := by omega
    have a2 : ¬ w + 2 = 0 := by omega
    have a8 : ¬ w + 8 = 0 := by omega
    by_cases c103 : c = 103
    · refine ⟨m, fun o => ?_, Fr_refl _ _, fun q => .inl rfl, fun y => absurd c103 y⟩
      show f_X3_addClause_65b (f_X3_addClause_65 N) w (nI c) (nI x) m o = _
      unfold f_X3_addClause_65b f_X3_addClause_110
      rw [h9, if_neg (nI_ge (by omega) (by omega)), if_pos (by rw [c103]; rfl)]
      simp (config := {decide := true}) only [t0, ne_eq, not_false_eq_true, and_self, and_true, true_and, and_false, false_and, true_or, or_true, false_or, or_false, not_true_eq_false, if_false, if_true]
    · have n103 : ¬ nI c = 103 := fun y => c103 ((nI_eq (b := 103) (by omega) (by omega)).mp y)
      by_cases q2 : gI m (w + 1) x = 2
      · obtain ⟨j, hj, ej⟩ := (hW x (Nat.le_refl _) (by omega)).2 q2
        have ej : gI m (w + 2) x = nI j := ej
        have i2 : vp_in (nI j) 10 := vp_in_nI (by omega) (by omega)
        have rr : ∀ y, gI (sI m (w + 8) j (-1)) (w + 1) y = gI m (w + 1) y ∧ gI (sI m (w + 8) j (-1)) (w + 2) y = gI m (w + 2) y := fun y => ⟨by rw [gI_sI, if_neg (by omega)], by rw [gI_sI, if_neg (by omega)]⟩
        obtain ⟨m', b1, b2, b3, b4⟩ := ih N (x + 1) (sI m (w + 8) j (-1)) (Sh_sI h _ _ _) (by rw [gI_sI, if_neg (by omega)]; exact h9) (WfI_congr (C := rwC m w) (fun y a b => hW y (by omega) b) (fun y _ _ => rr y)) (by omega) (by omega)
        refine ⟨m', fun o => ?_, Fr_trans (Fr_sI (P := fun q y => q = w + 8 ∧ y < 10) (Fr_refl _ m) ⟨rfl, hj⟩ _) b2, fun q => ?_, fun _ y a b e2 q eq hq => ?_⟩
        · show f_X3_addClause_65b (f_X3_addClause_65 N) w (nI c) (nI x) m o = _
          unfold f_X3_addClause_65b f_X3_addClause_104
          rw [h9, if_neg (nI_ge (by omega) (by omega)), if_neg n103, nI_1]
          simp (config := {decide := true}) only [t0, r0, r1, r7, T1, T2, T8, N1, N2, N8, i1, i2, a1, a2, a8, q2, ej, ix_nI (show x < 2 ^ 31 by omega), ix_nI (show j < 2 ^ 31 by omega), b1, ne_eq, not_false_eq_true, and_self, and_true, true_and, and_false, false_and, true_or, or_true, false_or, or_false, not_true_eq_false, if_false, if_true]
        · rcases b3 q with y | y
          · rw [y, gI_sI]
            by_cases e : q = j
            · rw [if_pos ⟨rfl, e⟩]; exact .inr rfl
            · rw [if_neg (fun z => e z.2)]; exact .inl rfl
          · exact .inr y
        · by_cases e : y = x
          · subst e
            have : q = j := by
              rw [ej] at eq
              exact ((nI_eq (by omega) (by omega)).mp eq).symm
            subst this
            rcases b3 q with z | z
            · rw [z, gI_sI, if_pos ⟨rfl, rfl⟩]
            · exact z
          · exact b4 c103 y (by omega) b (by rw [(rr y).1]; exact e2) q (by rw [(rr y).2]; exact eq) hq
      · obtain ⟨m', b1, b2, b3, b4⟩ := ih N (x + 1) m h h9 (fun y a b => hW y (by omega) b) (by omega) (by omega)
        refine ⟨m', fun o => ?_, b2, b3, fun _ y a b e2 q eq hq => ?_⟩
        · show f_X3_addClause_65b (f_X3_addClause_65 N) w (nI c) (nI x) m o = _
          unfold f_X3_addClause_65b f_X3_addClause_104
          rw [h9, if_neg (nI_ge (by omega) (by omega)), if_neg n103, nI_1]
          simp (config := {decide := true}) only [t0, r0, T1, N1, i1, a1, q2, ix_nI (show x < 2 ^ 31 by omega), b1, ne_eq, not_false_eq_true, and_self, and_true, true_and, and_false, false_and, true_or, or_true, false_or, or_false, not_true_eq_false, if_false, if_true]
        · by_cases e : y = x
          · subst e
            exact absurd e2 q2
          · exact b4 c103 y (by omega) b e2 q eq hq
theorem e_addClause {m : Mm} {w n : Nat} {s : Nat → Nat} {a z vs cs c k : Nat} (h : CS m w n s a z) (h10 : gI m w 10 = nI k) (hk : k < 14) (hvs : vs ≤ z) (hz : z ≤ 200) (hc : c < 256) (hW : WfI (rwC m w) vs z) : ∃ m', (∀ o, F_X3_addClause w (nI c) (nI vs) (nI cs) m o = ((), m', o)) ∧ Fr (fun q i => (q = w ∧ i = 10) ∨ ((w + 3 ≤ q ∧ q ≤ w + 6) ∧ i = k) ∨ (q = w + 8 ∧ i < 10)) m m' ∧ gI m' w 10 = nI (k + 1) ∧ (gI m' (w + 3) k = nI c ∧ gI m' (w + 4) k = nI vs ∧ gI m' (w + 5) k = nI cs ∧ gI m' (w + 6) k = nI z) ∧ (∀ q, gI m' (w + 8) q = gI m (w + 8) q ∨ gI m' (w + 8) q = -1) ∧ (c ≠ 103 → ∀ y, vs ≤ y → y < z → gI m (w + 1) y = 2 → ∀ q, gI m (w + 2) y = nI q → q < 10 → gI m' (w + 8) q = -1) := by
  obtain ⟨hB, h3, h9, hza, han⟩ := id h
  have hSh := hB.1
  have hw := hB.2.1
  obtain ⟨t0, r0, r1, r2, r3, r4, r5, r6, r7, r8⟩ := w_sh hSh hw
  obtain ⟨T1, T2, T3, T4, T5, T6, -⟩ := w_T hSh hw
  obtain ⟨N1, N2, N3, N4, N5, N6, -⟩ := w_N hSh hw
  have ik : vp_in (nI k) 14 := vp_in_nI (by omega) (by omega)
  have a3 : ¬ w + 3 = 0 := by omega
  have a4 : ¬ w + 4 = 0 := by omega
  have a5 : ¬ w + 5 = 0 := by omega
  have a6 : ¬ w + 6 = 0 := by omega
  have hm1 : ∃ m1, m1 = sI (sI (sI (sI (sI m (w + 3) k (nI c)) (w + 4) k (nI vs)) (w + 5) k (nI cs)) (w + 6) k (nI z)) w 10 (nI (k + 1)) := ⟨_, rfl⟩
  obtain ⟨m1, e1⟩ := hm1
  have g : ∀ q i, gI m1 q i = if q = w ∧ i = 10 then nI (k + 1) else if q = w + 6 ∧ i = k then nI z else if q = w + 5 ∧ i = k then nI cs else if q = w + 4 ∧ i = k then nI vs else if q = w + 3 ∧ i = k then nI c else gI m q i := fun q i => by
    rw [e1, gI_sI, gI_sI, gI_sI, gI_sI, gI_sI]
  have S1 : Sh m1 := by rw [e1]; exact hSh
  have F1 : Fr (fun q i => (q = w ∧ i = 10) ∨ ((w + 3 ≤ q ∧ q ≤ w + 6) ∧ i = k) ∨ (q = w + 8 ∧ i < 10)) m m1 := ⟨by rw [e1]; rfl, fun q i y => by rw [g, if_neg (by omega), if_neg (by omega), if_neg (by omega), if_neg (by omega), if_neg (by omega)]⟩
  have rr : ∀ y, gI m1 (w + 1) y = gI m (w + 1) y ∧ gI m1 (w + 2) y = gI m (w + 2) y := fun y => ⟨Fr_at F1 (by omega), Fr_at F1 (by omega)⟩
  obtain ⟨m', b1, b2, b3, b4⟩ := l_mask hw hz hc (z - vs) 1000 vs m1 S1 (by rw [Fr_at F1 (by omega)]; exact h9) (WfI_congr (C := rwC m w) hW (fun y _ _ => rr y)) (by omega) (by omega)
  refine ⟨m', fun o => ?_, Fr_trans F1 (Fr_mono b2 (fun q i y => .inr (.inr y))), by rw [Fr_at b2 (by omega), g, if_pos ⟨rfl, rfl⟩], ⟨?_, ?_, ?_, ?_⟩, fun q => ?_, fun hne y a b e2 q eq hq => b4 hne y a b (by rw [(rr y).1]; exact e2) q (by rw [(rr y).2]; exact eq) hq⟩
  · have b1 : ∀ o, f_X3_addClause_65 1000 w (nI c) (nI vs) (sI (sI (sI (sI (sI m (w + 3) k (nI c)) (w + 4) k (nI vs)) (w + 5) k (nI cs)) (w + 6) k (nI z)) w 10 (nI (k + 1))) o = ((), m', o) := by
      rw [← e1]
      exact b1
    have b10 : ∀ q, ¬ (w = w + (q + 1) ∧ 10 = k) := fun q => by omega
    have b9 : ∀ q, ¬ (w = w + (q + 1) ∧ 9 = k) := fun q => by omega
    unfold F_X3_addClause f_X3_addClause_0
    rw [h10, if_neg (show ¬ (14 : Int32) ≤ nI (k) from nI_ge (a := k) (b := 14) (by omega) (by omega))]
    simp (config := {decide := true}) only [f_X3_addClause_19, f_X3_addClause_29, f_X3_addClause_39, f_X3_addClause_52, f_X3_addClause_62, gT_sI, gN_sI, gR_sI, gI_sI, if_neg (b10 2), if_neg (b10 3), if_neg (b10 4), if_neg (b10 5), if_neg (b9 2), if_neg (b9 3), if_neg (b9 4), if_neg (b9 5), t0, r2, r3, r4, r5, T3, T4, T5, T6, N3, N4, N5, N6, h10, h9, ik, a3, a4, a5, a6, ix_nI (show k < 2 ^ 31 by omega), nI_1, b1, ne_eq, not_false_eq_true, and_self, and_true, true_and, and_false, false_and, true_or, or_true, false_or, or_false, not_true_eq_false, if_false, if_true]
  · rw [Fr_at b2 (by omega), g, if_neg (by omega), if_neg (by omega), if_neg (by omega), if_neg (by omega), if_pos ⟨rfl, rfl⟩]
  · rw [Fr_at b2 (by omega), g, if_neg (by omega), if_neg (by omega), if_neg (by omega), if_pos ⟨rfl, rfl⟩]
  · rw [Fr_at b2 (by omega), g, if_neg (by omega), if_neg (by omega), if_pos ⟨rfl, rfl⟩]
  · rw [Fr_at b2 (by omega), g, if_neg (by omega), if_pos ⟨rfl, rfl⟩]
  · have := b3 q
    rw [g, if_neg (by omega), if_neg (by omega), if_neg (by omega), if_neg (by omega), if_neg (by omega)] at this
    exact this
/-- what the class's rows hold of one clause: letter, value, condition -/
def CKl (C : Nat → Nat → Int32) (z : Nat) (x : Nat × VE × VC) (j : Nat) : Prop := ∃ vs cs ce, C 3 j = nI x.1 ∧ C 4 j = nI vs ∧ C 5 j = nI cs ∧ C 6 j = nI ce ∧ vs ≤ cs ∧ cs < ce ∧ ce ≤ z ∧ isKd x.1 ∧ CCx C cs ce x.2.2 ∧ (x.1 ≠ 110 → ECx C vs cs 15 x.2.1) ∧ (x.1 ≠ 103 → ∀ y, vs ≤ y → y < ce → C 1 y = 2 → ∀ q, C 2 y = nI q → q < 10 → C 8 q = -1)
theorem e_clauseC {w n : Nat} {s : Nat → Nat} {m : Mm} {a z k c : Nat} (ha : 0 < a) (h : CS m w n s a z) (h10 : gI m w 10 = nI k) (hk : k < 14) (hc : isKd c) : (∀ e, sKl s c a = .inl e → ∃ m', (∀ o, F_X4_clause 193 (nI c) m o = (0, m', o)) ∧ Fr (clP w) m m' ∧ gI m' 193 4 = nI e.1 ∧ gI m' 193 3 = nI e.2) ∧ (∀ p V T, sKl s c a = .inr (p, (V, T)) → ∃ m' z', (∀ o, F_X4_clause 193 (nI c) m o = (1, m', o)) ∧ Fr (clP w) m m' ∧ CS m' w n s p z' ∧ a < p ∧ z ≤ z' ∧ gI m' w 10 = nI (k + 1) ∧ CKl (rwC m' w) z' (c, (V, T)) k ∧ (∀ x, x < z → rwC m' w 1 x = rwC m w 1 x ∧ rwC m' w 2 x = rwC m w 2 x) ∧ (∀ j, j ≠ k → ∀ q, 3 ≤ q → q ≤ 6 → rwC m' w q j = rwC m w q j) ∧ ∀ q, rwC m' w 8 q = rwC m w 8 q ∨ rwC m' w 8 q = -1) := by
  obtain ⟨hB, h3, h9, hza, han⟩ := id h
  have hSh := hB.1
  have hw := hB.2.1
  have hn200 := hB.2.2.2.2.1
  have hz0 := hB.2.2.2.2.2.2
  obtain ⟨w1, w2, w3, w4⟩ := w_ne hw
  obtain ⟨tw, -⟩ := w_sh hSh hw
  have hr : gR m 193 1 = w := hB.2.2.1
  have hc256 : c < 256 := by unfold isKd at hc; omega
  -- behind the value
  have behind : ∀ (m1 : Mm) (p z1 : Nat) (V : VE), CS m1 w n s p z1 → Fr (cfP w z) m m1 → a ≤ p → z ≤ z1 → (c ≠ 110 → ECx (rwC m1 w) z z1 15 V) → (c = 110 → z1 = z) → (∀ e, iT (s p = 40) (bS (sCl s (sP s 5) 200 none none (p + 1)) (fun q T => iT (s q = 41) (.inr (q + 1, (V, T))) (.inl (1, q)))) (.inl (1, p)) = .inl e → ∃ m', (∀ o, f_X4_clause_24 193 (nI c) (nI z) m1 o = (0, m', o)) ∧ Fr (clP w) m m' ∧ gI m' 193 4 = nI e.1 ∧ gI m' 193 3 = nI e.2) ∧ (∀ q U T, iT (s p = 40) (bS (sCl s (sP s 5) 200 none none (p + 1)) (fun q T => iT (s q = 41) (.inr (q + 1, (V, T))) (.inl (1, q)))) (.inl (1, p)) = .inr (q, (U, T)) → ∃ m' z', (∀ o, f_X4_clause_24 193 (nI c) (nI z) m1 o = (1, m', o)) ∧ Fr (clP w) m m' ∧ CS m' w n s q z' ∧ a < q ∧ z ≤ z' ∧ gI m' w 10 = nI (k + 1) ∧ CKl (rwC m' w) z' (c, (U, T)) k ∧ (∀ x, x < z → rwC m' w 1 x = rwC m w 1 x ∧ rwC m' w 2 x = rwC m w 2 x) ∧ (∀ j, j ≠ k → ∀ q, 3 ≤ q → q ≤ 6 → rwC m' w q j = rwC m w q j) ∧ ∀ q, rwC m' w 8 q = rwC m w 8 q ∨ rwC m' w 8 q = -1) := fun m1 p z1 V h1 F1 hap hzz hV hV0 => by
    have S1 := h1.1.1
    have hr1 : gR m1 193 1 = w := h1.1.2.2.1
    obtain ⟨tw1, -⟩ := w_sh S1 hw
    obtain ⟨x1, x2⟩ := e_expect h1.1 h1.2.2.2.2 h1.2.1 (ch := 40) (by omega) (by omega)
    have x1 : s p = 40 → ∀ o, F_X4_expect 193 40 m1 o = (1, sI m1 193 3 (nI (p + 1)), o) := x1
    have x2 : ¬ s p = 40 → ∀ o, F_X4_expect 193 40 m1 o = (0, sI m1 193 4 1, o) := x2
    by_cases c40 : s p = 40
    · rw [iT_pos c40]
      have hpn : p < n := lt_of_sg hz0 (by omega)
      have h2 := CS_at h1 hpn
      obtain ⟨f1, f2⟩ := FR_C hz0 (r := 5) (D := 20) (by omega) (by omega) _ _ _ (Nat.succ_pos p) h2
      have base : ∀ o, f_X4_clause_24 193 (nI c) (nI z) m1 o = bnd (FR 20 0 193 (nI (6 - 5)) (sI m1 193 3 (nI (p + 1))) o) (fun v1 m1 o1 => f_X4_clause_46 193 (nI c) (nI z) (nI z1) v1 m1 o1) := fun o => by
        unfold f_X4_clause_24
        rw [x1 c40, bnd_mk]
        unfold f_X4_clause_38
        rw [if_neg (by decide), hr1, h1.2.2.1]
        simp (config := {decide := true}) only [gT_sI, shT_193 S1, tw1, w4, ne_eq, not_false_eq_true, and_self, and_true, true_and, and_false, false_and, true_or, or_true, false_or, or_false, not_true_eq_false, if_false, if_true]
        rfl
      cases hfa : sCl s (sP s 5) 200 none none (p + 1) with
      | inl e =>
        obtain ⟨m', a1, a2⟩ := f1 e hfa
        rw [bS_l]
        refine ⟨fun e' y => ?_, fun q U T y => (by cases y)⟩
        cases y
        refine ⟨m', fun o => ?_, Fr_trans (Fr_mono F1 (fun q i y => clP_cf y)) (Fr_trans (Fr_mono (Fr_at3 (w := w) (z := 0) _) (fun q i y => clP_cf y)) (Fr_mono a2.1 (fun q i y => clP_cf y))), a2.2.1, a2.2.2.1⟩
        rw [base, a1, bnd_mk]
        unfold f_X4_clause_46 f_X4_clause_58
        rw [if_pos rfl]
      | inr qq =>
        obtain ⟨p2, T⟩ := qq
        obtain ⟨m2, z2, a1, a2, a3⟩ := f2 (p2, T) hfa
        have hpn2 : p + 1 < p2 ∧ p2 ≤ n := sCl_prog hz0 (fun b hb => sP_prog hz0 5 b hb) 200 none none (p + 1) hpn (p2, T) hfa
        have h3' : CS m2 w n s p2 z2 := CS_of h2 a2 hpn2.2
        have a3 : CCx (rwC m2 w) z1 z2 T := a3
        obtain ⟨o1, o2, o3, o4, o5⟩ := id a2
        have S2 := h3'.1.1
        obtain ⟨y1, y2⟩ := e_expect h3'.1 h3'.2.2.2.2 h3'.2.1 (ch := 41) (by omega) (by omega)
        have y1 : s p2 = 41 → ∀ o, F_X4_expect 193 41 m2 o = (1, sI m2 193 3 (nI (p2 + 1)), o) := y1
        have y2 : ¬ s p2 = 41 → ∀ o, F_X4_expect 193 41 m2 o = (0, sI m2 193 4 1, o) := y2
        have F2 : Fr (clP w) m m2 := Fr_trans (Fr_mono F1 (fun q i y => clP_cf y)) (Fr_trans (Fr_mono (Fr_at3 (w := w) (z := 0) _) (fun q i y => clP_cf y)) (Fr_mono o1 (fun q i y => clP_cf y)))
        rw [bS_r]
        by_cases c41 : s p2 = 41
        · rw [iT_pos c41]
          have hpn3 : p2 < n := lt_of_sg hz0 (by omega)
          have h4 := CS_at h3' hpn3
          -- rows below z1 are those of m1
          have rows12 : ∀ x, x < z1 → rwC m2 w 1 x = rwC m1 w 1 x ∧ rwC m2 w 2 x = rwC m1 w 2 x := fun x hx => by
            have e1 : rwC m2 w 1 x = rwC (sI m1 193 3 (nI (p + 1))) w 1 x := Fr_at o1 (by unfold cfP; omega)
            have e2 : rwC m2 w 2 x = rwC (sI m1 193 3 (nI (p + 1))) w 2 x := Fr_at o1 (by unfold cfP; omega)
            rw [rwC_at _ hw] at e1 e2
            exact ⟨e1, e2⟩
          have rows01 : ∀ x, x < z → rwC m1 w 1 x = rwC m w 1 x ∧ rwC m1 w 2 x = rwC m w 2 x := fun x hx => ⟨Fr_at F1 (by unfold cfP; omega), Fr_at F1 (by unfold cfP; omega)⟩
          have hV2 : c ≠ 110 → ECx (rwC m2 w) z z1 15 V := fun y => ECx_congr (hV y) (fun x _ b => rows12 x b)
          have hW : WfI (rwC m2 w) z z2 := by
            by_cases y : c = 110
            · rw [hV0 y] at a3
              exact a3.2.1
            · exact WfI_cat (hV2 y).2.1 a3.2.1
          have g10 : gI m2 w 10 = nI k := by
            rw [Fr_at o1 (by unfold cfP; omega), gI_sI, if_neg (by omega), Fr_at F1 (by unfold cfP; omega)]
            exact h10
          obtain ⟨m3, b1, b2, b3, ⟨b4, b5, b6, b7⟩, b8, b9⟩ := e_addClause (cs := z1) h4 (by rw [gI_sI, if_neg (fun y => w1 y.1)]; exact g10) hk (show z ≤ z2 by omega) (by have := h3'.2.2.2.1; omega) hc256 (by rw [rwC_at _ hw]; exact hW)
          have F3 : Fr (clP w) m m3 := Fr_trans F2 (Fr_trans (Fr_mono (Fr_at3 (w := w) (z := 0) _) (fun q i y => clP_cf y)) (Fr_mono b2 (fun q i y => by unfold clP; omega)))
          have rows3 : ∀ x, rwC m3 w 1 x = rwC m2 w 1 x ∧ rwC m3 w 2 x = rwC m2 w 2 x := fun x => by
            have e1 : rwC m3 w 1 x = rwC (sI m2 193 3 (nI (p2 + 1))) w 1 x := Fr_at b2 (by omega)
            have e2 : rwC m3 w 2 x = rwC (sI m2 193 3 (nI (p2 + 1))) w 2 x := Fr_at b2 (by omega)
            rw [rwC_at _ hw] at e1 e2
            exact ⟨e1, e2⟩
          refine ⟨fun e y => (by cases y), fun q U T' y => ?_⟩
          cases y
          refine ⟨m3, z2, fun o => ?_, F3, ⟨CB_Fr2 hB F3, by rw [Fr_at b2 (by rcases hw with y | y <;> omega)]; exact h4.2.1, by rw [Fr_at b2 (by omega)]; exact h4.2.2.1, by have := h4.2.2.2.1; omega, h4.2.2.2.2⟩, by omega, by omega, b3, ⟨z, z1, z2, b4, b5, b6, b7, hzz, o4, Nat.le_refl _, hc, CCx_congr a3 (fun x _ _ => rows3 x), fun y => ECx_congr (hV2 y) (fun x _ _ => rows3 x), fun y x ax bx e2 q eq hq => ?_⟩, fun x hx => ⟨(rows3 x).1.trans ((rows12 x (by omega)).1.trans (rows01 x hx).1), (rows3 x).2.trans ((rows12 x (by omega)).2.trans (rows01 x hx).2)⟩, fun j hj q hq1 hq2 => ?_, fun q => ?_⟩
          · rw [base, a1, bnd_mk]
            unfold f_X4_clause_46
            rw [if_neg (by decide), y1 c41, bnd_mk]
            unfold f_X4_clause_55
            have hr4 : gR (sI m2 193 3 (nI (p2 + 1))) 193 1 = w := h3'.1.2.2.1
            obtain ⟨tw2, -⟩ := w_sh S2 hw
            rw [if_neg (by decide), hr4, b1, bnd_mk]
            unfold f_X4_clause_70
            simp (config := {decide := true}) only [gT_sI, shT_193 S2, tw2, w4, ne_eq, not_false_eq_true, and_self, and_true, true_and, and_false, false_and, true_or, or_true, false_or, or_false, not_true_eq_false, if_false, if_true]
          · refine b9 y x ax bx ?_ q ?_ hq
            · have : rwC (sI m2 193 3 (nI (p2 + 1))) w 1 x = 2 := by rw [rwC_at _ hw, ← (rows3 x).1]; exact e2
              exact this
            · have : rwC (sI m2 193 3 (nI (p2 + 1))) w 2 x = nI q := by rw [rwC_at _ hw, ← (rows3 x).2]; exact eq
              exact this
          · show gI m3 (w + q) j = gI m (w + q) j
            rw [Fr_at b2 (by omega), gI_sI, if_neg (by rcases hw with rfl | rfl <;> omega), Fr_at o1 (by unfold cfP; rcases hw with rfl | rfl <;> omega), gI_sI, if_neg (by rcases hw with rfl | rfl <;> omega), Fr_at F1 (by unfold cfP; rcases hw with rfl | rfl <;> omega)]
          · have e8 : gI (sI m2 193 3 (nI (p2 + 1))) (w + 8) q = gI m (w + 8) q := by
              rw [gI_sI, if_neg (by rcases hw with rfl | rfl <;> omega), Fr_at o1 (by unfold cfP; rcases hw with rfl | rfl <;> omega), gI_sI, if_neg (by rcases hw with rfl | rfl <;> omega), Fr_at F1 (by unfold cfP; rcases hw with rfl | rfl <;> omega)]
            have := b8 q
            rw [e8] at this
            exact this
        · rw [iT_neg c41]
          refine ⟨fun e y => ?_, fun q U T y => (by cases y)⟩
          cases y
          refine ⟨sI m2 193 4 1, fun o => ?_, Fr_trans F2 (Fr_mono (Fr_at4 (w := w) (z := 0) _) (fun q i y => clP_cf y)), by rw [gI_sI, if_pos ⟨rfl, rfl⟩]; rfl, by rw [gI_sI, if_neg (by omega)]; exact h3'.2.1⟩
          rw [base, a1, bnd_mk]
          unfold f_X4_clause_46
          rw [if_neg (by decide), y2 c41, bnd_mk]
          unfold f_X4_clause_55 f_X4_clause_58
          rw [if_pos rfl]
          simp (config := {decide := true}) only [shT_193 S2, ne_eq, not_false_eq_true, and_self, and_true, true_and, and_false, false_and, true_or, or_true, false_or, or_false, not_true_eq_false, if_false, if_true]
    · rw [iT_neg c40]
      refine ⟨fun e y => ?_, fun q U T y => (by cases y)⟩
      cases y
      refine ⟨sI m1 193 4 1, fun o => ?_, Fr_trans (Fr_mono F1 (fun q i y => clP_cf y)) (Fr_mono (Fr_at4 (w := w) (z := 0) _) (fun q i y => clP_cf y)), by rw [gI_sI, if_pos ⟨rfl, rfl⟩]; rfl, by rw [gI_sI, if_neg (by omega)]; exact h1.2.1⟩
      unfold f_X4_clause_24
      rw [x2 c40, bnd_mk]
      unfold f_X4_clause_38 f_X4_clause_58
      rw [if_pos rfl, hr1]
      simp (config := {decide := true}) only [shT_193 S1, tw1, w4, ne_eq, not_false_eq_true, and_self, and_true, true_and, and_false, false_and, true_or, or_true, false_or, or_false, not_true_eq_false, if_false, if_true]
  unfold sKl
  by_cases c110 : c = 110
  · rw [iT_pos c110, bS_r]
    obtain ⟨b1, b2⟩ := behind m a z (fun _ => none) h (Fr_refl _ _) (Nat.le_refl _) (Nat.le_refl _) (fun y => absurd c110 y) (fun _ => rfl)
    have base : ∀ o, F_X4_clause 193 (nI c) m o = f_X4_clause_24 193 (nI c) (nI z) m o := fun o => by
      unfold F_X4_clause f_X4_clause_0
      rw [if_pos (by rw [c110]; rfl), hr, h9]
      simp (config := {decide := true}) only [shT_193 hSh, tw, w4, ne_eq, not_false_eq_true, and_self, and_true, true_and, and_false, false_and, true_or, or_true, false_or, or_false, not_true_eq_false, if_false, if_true]
    refine ⟨fun e y => ?_, fun p V T y => ?_⟩
    · obtain ⟨m', d1, d2⟩ := b1 e y
      exact ⟨m', fun o => by rw [base]; exact d1 o, d2⟩
    · obtain ⟨m', z', d1, d2⟩ := b2 p V T y
      exact ⟨m', z', fun o => by rw [base]; exact d1 o, d2⟩
  · rw [iT_neg c110]
    have n110 : ¬ nI c = 110 := fun y => c110 ((nI_eq (b := 110) (by omega) (by omega)).mp y)
    obtain ⟨f1, f2⟩ := FR_E hz0 6 20 (by omega) (by omega) m a z ha h
    have base : ∀ o, F_X4_clause 193 (nI c) m o = bnd (FR 20 2 193 (nI (6 - 6)) m o) (fun v1 m1 o1 => f_X4_clause_19 193 (nI c) (nI z) v1 m1 o1) := fun o => by
      unfold F_X4_clause f_X4_clause_0
      rw [if_neg n110, hr, h9]
      simp (config := {decide := true}) only [shT_193 hSh, tw, w4, ne_eq, not_false_eq_true, and_self, and_true, true_and, and_false, false_and, true_or, or_true, false_or, or_false, not_true_eq_false, if_false, if_true]
      rfl
    cases hfa : sE s 6 a with
    | inl e =>
      obtain ⟨m', a1, a2⟩ := f1 e hfa
      rw [bS_l]
      refine ⟨fun e' y => ?_, fun q U T y => (by cases y)⟩
      cases y
      refine ⟨m', fun o => ?_, Fr_mono a2.1 (fun q i y => clP_cf y), a2.2.1, a2.2.2.1⟩
      rw [base, a1, bnd_mk]
      unfold f_X4_clause_19
      rw [if_pos rfl]
    | inr qq =>
      obtain ⟨p, V⟩ := qq
      obtain ⟨m1, z1, a1, a2, a3⟩ := f2 (p, V) hfa
      have hpn : a < p ∧ p ≤ n := sE_prog hz0 6 a han (p, V) hfa
      have h1 : CS m1 w n s p z1 := CS_of h a2 hpn.2
      obtain ⟨b1, b2⟩ := behind m1 p z1 V h1 a2.1 (by omega) (Nat.le_of_lt a2.2.2.2.1) (fun _ => a3) (fun y => absurd y c110)
      have base2 : ∀ o, F_X4_clause 193 (nI c) m o = f_X4_clause_24 193 (nI c) (nI z) m1 o := fun o => by
        rw [base, a1, bnd_mk]
        unfold f_X4_clause_19
        rw [if_neg (by decide)]
      rw [bS_r]
      refine ⟨fun e y => ?_, fun q U T y => ?_⟩
      · obtain ⟨m', d1, d2⟩ := b1 e y
        exact ⟨m', fun o => by rw [base2]; exact d1 o, d2⟩
      · obtain ⟨m', z', d1, d2⟩ := b2 q U T y
        exact ⟨m', z', fun o => by rw [base2]; exact d1 o, d2⟩

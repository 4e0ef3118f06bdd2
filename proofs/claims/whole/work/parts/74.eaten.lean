/-! ===== eaten ===== -/
theorem l_eaten1 {m : Mm} (h : Sh m) (K : Nat → Int32 → Int32 → Int32 → Int32 → Int32 → Mm → Prop → Int32 × Mm × Prop) {s e : Nat} (hs : s < 12) (l4 l5 : Int32) (he : e ≤ 16) : ∀ (k N j : Nat) (a : Int32) (o : Prop), j + k = e → k < N → f_X11_eaten_109 K N 1 l4 l5 (nI e - 1) a (nI s) (nI j) m o = K 1 l4 l5 (nI e - 1) (sm (fun t => gI m (10 + 2 * s) t) a j k) (nI (s + 1)) m o := by
  obtain ⟨r1, r2, r3, r4, r5⟩ := md_stk h (p := 2) (.inl rfl) hs
  have r1 : gR m 3 s = 9 + 2 * s := r1
  have r2 : gT m (9 + 2 * s) = 8 := r2
  have r3 : gR m (9 + 2 * s) 8 = 10 + 2 * s := r3
  have r4 : gT m (10 + 2 * s) = 20 := r4
  have r5 : gN m (10 + 2 * s) = 16 := r5
  have n1 : ¬ 9 + 2 * s = 0 := by omega
  have n2 : ¬ 10 + 2 * s = 0 := by omega
  have hin : vp_in (nI s) 12 := vp_in_nI (by omega) (by omega)
  intro k
  induction k with
  | zero =>
    intro N j a o hj hN
    obtain ⟨N, rfl⟩ : ∃ N1, N = N1 + 1 := ⟨N - 1, by omega⟩
    show f_X11_eaten_109b K (f_X11_eaten_109 K N) 1 l4 l5 (nI e - 1) a (nI s) (nI j) m o = _
    unfold f_X11_eaten_109b
    rw [if_pos (by rw [← hj]; exact (last_lt (by omega)).mpr rfl), nI_1]
    rfl
  | succ k ih =>
    intro N j a o hj hN
    obtain ⟨N, rfl⟩ : ∃ N1, N = N1 + 1 := ⟨N - 1, by omega⟩
    have hin2 : vp_in (nI j) 16 := vp_in_nI (by omega) (by omega)
    show f_X11_eaten_109b K (f_X11_eaten_109 K N) 1 l4 l5 (nI e - 1) a (nI s) (nI j) m o = _
    unfold f_X11_eaten_109b
    rw [if_neg (by rw [← hj, last_lt (by omega)]; omega)]
    simp (config := {decide := true}) only [ix_nI (show j < 2 ^ 31 by omega), ix_nI (show s < 2 ^ 31 by omega), shT_1 h, shR_1_0 h, shT_2 h, shR_2_0 h, shT_3 h, shN_3 h, r1, r2, r3, r4, r5, n1, n2, hin, hin2, ne_eq, not_false_eq_true, and_self, and_true, true_and, not_true_eq_false, if_false, if_true, nI_1]
    rw [ih N (j + 1) _ o (by omega) (by omega), sm]
theorem l_eaten2 {m : Mm} (h : Sh m) {j e kk : Nat} (he : e ≤ 16) (hj : j + kk = e) {n : Nat} (hn : n ≤ 12) : ∀ (k N i : Nat) (a : Int32) (o : Prop), i + k = n → k < N → f_X11_eaten_98 N 1 (nI n - 1) (nI j) (nI e - 1) a (nI i) m o = (sm (fun s => sm (fun t => gI m (10 + 2 * s) t) 0 j kk) a i k, m, o) := by
  intro k
  induction k with
  | zero =>
    intro N i a o hi hN
    obtain ⟨N, rfl⟩ : ∃ N1, N = N1 + 1 := ⟨N - 1, by omega⟩
    show f_X11_eaten_98b (f_X11_eaten_98 N) 1 (nI n - 1) (nI j) (nI e - 1) a (nI i) m o = _
    unfold f_X11_eaten_98b
    rw [if_pos (by rw [← hi]; exact (last_lt (by omega)).mpr rfl)]
    rfl
  | succ k ih =>
    intro N i a o hi hN
    obtain ⟨N, rfl⟩ : ∃ N1, N = N1 + 1 := ⟨N - 1, by omega⟩
    show f_X11_eaten_98b (f_X11_eaten_98 N) 1 (nI n - 1) (nI j) (nI e - 1) a (nI i) m o = _
    unfold f_X11_eaten_98b
    rw [if_neg (by rw [← hi, last_lt (by omega)]; omega), l_eaten1 h _ (by omega) _ _ he kk 1000 j a o hj (by omega), ih N (i + 1) _ o (by omega) (by omega), sm, ← sm_0]
theorem l_eatenM1 {m : Mm} (h : Sh m) (K : Nat → Int32 → Int32 → Int32 → Int32 → Mm → Prop → Int32 × Mm × Prop) {s e : Nat} (hs : s < 12) (l1 l2 : Int32) (he : e ≤ 16) (h3 : gI m 225 3 = nI e) : ∀ (k N j : Nat) (a : Int32) (o : Prop), j + k = e → k < N → f_X12_eaten_46 K N 225 l1 l2 a (nI s) (nI j) m o = K 225 l1 l2 (sm (fun t => if (l1 = -1 ∨ l1 = nI s) ∧ (l2 = -1 ∨ l2 = nI t) then gI m 240 (16 * s + t) else 0) a j k) (nI (s + 1)) m o := by
  intro k
  induction k with
  | zero =>
    intro N j a o hj hN
    obtain ⟨N, rfl⟩ : ∃ N1, N = N1 + 1 := ⟨N - 1, by omega⟩
    show f_X12_eaten_46b K (f_X12_eaten_46 K N) 225 l1 l2 a (nI s) (nI j) m o = _
    unfold f_X12_eaten_46b
    rw [h3, if_pos (nI_le (by omega) (by omega)), nI_1]
    simp [shT_225 h, sm]
  | succ k ih =>
    intro N j a o hj hN
    obtain ⟨N, rfl⟩ : ∃ N1, N = N1 + 1 := ⟨N - 1, by omega⟩
    have hin : vp_in (nI (16 * s + j)) 192 := vp_in_nI (by omega) (by omega)
    have e1 : (16 : Int32) * nI s + nI j = nI (16 * s + j) := by rw [show (16 : Int32) = nI 16 from rfl, pk_mul, nI_add]
    show f_X12_eaten_46b K (f_X12_eaten_46 K N) 225 l1 l2 a (nI s) (nI j) m o = _
    unfold f_X12_eaten_46b f_X12_eaten_67 f_X12_eaten_94 f_X12_eaten_78 f_X12_eaten_95
    rw [h3, if_neg (nI_ge (by omega) (by omega))]
    simp (config := {decide := true}) only [e1, ix_nI (show 16 * s + j < 2 ^ 31 by omega), shT_225 h, shR_225_21 h, shT_240 h, shN_240 h, hin, ne_eq, not_false_eq_true, and_self, and_true, true_and, not_true_eq_false, if_false, if_true, nI_1]
    simp only [ih N (j + 1) _ o (by omega) (by omega), sm]
    rcases Classical.propComplete (l1 = -1) with q1 | q1 <;> rcases Classical.propComplete (l2 = -1) with q2 | q2 <;> rcases Classical.propComplete (l1 = nI s) with q3 | q3 <;> rcases Classical.propComplete (l2 = nI j) with q4 | q4 <;> simp only [q1, q2, q3, q4, if_true, if_false, true_or, or_true, or_self, and_true, true_and, and_self, and_false, false_and]
theorem l_eatenM2 {m : Mm} (h : Sh m) {e n : Nat} (l1 l2 : Int32) (he : e ≤ 16) (h3 : gI m 225 3 = nI e) (hn : n ≤ 12) (h2 : gI m 225 2 = nI n) : ∀ (k N i : Nat) (a : Int32) (o : Prop), i + k = n → k < N → f_X12_eaten_34 N 225 l1 l2 a (nI i) m o = (sm (fun s => sm (fun t => if (l1 = -1 ∨ l1 = nI s) ∧ (l2 = -1 ∨ l2 = nI t) then gI m 240 (16 * s + t) else 0) 0 0 e) a i k, m, o) := by
  intro k
  induction k with
  | zero =>
    intro N i a o hi hN
    obtain ⟨N, rfl⟩ : ∃ N1, N = N1 + 1 := ⟨N - 1, by omega⟩
    show f_X12_eaten_34b (f_X12_eaten_34 N) 225 l1 l2 a (nI i) m o = _
    unfold f_X12_eaten_34b
    rw [h2, if_pos (nI_le (by omega) (by omega))]
    simp [shT_225 h, sm]
  | succ k ih =>
    intro N i a o hi hN
    obtain ⟨N, rfl⟩ : ∃ N1, N = N1 + 1 := ⟨N - 1, by omega⟩
    show f_X12_eaten_34b (f_X12_eaten_34 N) 225 l1 l2 a (nI i) m o = _
    unfold f_X12_eaten_34b
    rw [h2, if_neg (nI_ge (by omega) (by omega))]
    show f_X12_eaten_46 (f_X12_eaten_34 N) 1000 225 l1 l2 a (nI i) (nI 0) m _ = _
    rw [l_eatenM1 h _ (by omega) l1 l2 he h3 e 1000 0 a _ (by omega) (by omega), ih N (i + 1) _ _ (by omega) (by omega), sm, ← sm_0]
    simp [shT_225 h]
theorem p_eaten : Pr_eaten Rel := fun a b => PrI_at (fun m hR => by
  have h := hR.1
  obtain ⟨n, c, ⟨⟨hn, hc⟩, ⟨h6, h2⟩, ⟨h7, h3⟩, -⟩, -, -, -, -, hE⟩ := hR.2.2.1
  have h2 : gI m 225 2 = nI n := h2
  have h3 : gI m 225 3 = nI c := h3
  have hE : ∀ s t, s < n → t < c → gI m 240 (16 * s + t) = gI m (10 + 2 * s) t := fun s t hs ht => by
    have := (hE s hs).1 t ht
    rw [Nat.mul_zero, Nat.zero_add] at this
    exact this
  have z1 : (-1 : Int32) = nI 0 - 1 := rfl
  by_cases qa : a = -1 ∨ ∃ s, s < n ∧ a = nI s
  · by_cases qb : b = -1 ∨ ∃ t, t < c ∧ b = nI t
    · have hM : ∀ o, F_X12_eaten 225 a b m o = (sm (fun s => sm (fun t => if (a = -1 ∨ a = nI s) ∧ (b = -1 ∨ b = nI t) then gI m 240 (16 * s + t) else 0) 0 0 c) 0 0 n, m, o) := fun o => by
        have hl := l_eatenM2 h a b hc h3 hn h2 n 1000 0 0 o (by omega) (by omega)
        unfold F_X12_eaten f_X12_eaten_0 f_X12_eaten_10 f_X12_eaten_13 f_X12_eaten_23 f_X12_eaten_29 bnd
        simp only [e_isStackM _ h, e_isCowM _ h, h2, h3, bI_0, rng_n (show n < 2 ^ 30 by omega), rng_n (show c < 2 ^ 30 by omega), shT_225 h, and_true]
        rw [show (0 : Int32) = nI 0 from rfl] at hl ⊢
        by_cases q1 : a = -1 <;> by_cases q2 : b = -1
        · rw [if_pos q1, if_pos q2]; exact hl
        · rw [if_pos q1, if_neg q2, if_neg (not_not_intro (qb.resolve_left q2))]; exact hl
        · rw [if_neg q1, if_neg (not_not_intro (qa.resolve_left q1)), if_pos q2]; exact hl
        · rw [if_neg q1, if_neg (not_not_intro (qa.resolve_left q1)), if_neg q2, if_neg (not_not_intro (qb.resolve_left q2))]; exact hl
      -- the class
      have hC : ∃ i k j kk, i + k ≤ n ∧ j + kk ≤ c ∧ (∀ o, F_X11_eaten 1 a b m o = (sm (fun s => sm (fun t => gI m (10 + 2 * s) t) 0 j kk) 0 i k, m, o)) ∧ ((a = -1 ∧ i = 0 ∧ k = n) ∨ (a ≠ -1 ∧ a = nI i ∧ k = 1)) ∧ ((b = -1 ∧ j = 0 ∧ kk = c) ∨ (b ≠ -1 ∧ b = nI j ∧ kk = 1)) := by
        have hA : ∃ i k, i + k ≤ n ∧ ((a = -1 ∧ i = 0 ∧ k = n) ∨ (a ≠ -1 ∧ a = nI i ∧ k = 1)) := by
          by_cases q : a = -1
          · exact ⟨0, n, by omega, .inl ⟨q, rfl, rfl⟩⟩
          · obtain ⟨s, hs, e⟩ := qa.resolve_left q
            exact ⟨s, 1, by omega, .inr ⟨q, e, rfl⟩⟩
        have hB : ∃ i k, i + k ≤ c ∧ ((b = -1 ∧ i = 0 ∧ k = c) ∨ (b ≠ -1 ∧ b = nI i ∧ k = 1)) := by
          by_cases q : b = -1
          · exact ⟨0, c, by omega, .inl ⟨q, rfl, rfl⟩⟩
          · obtain ⟨s, hs, e⟩ := qb.resolve_left q
            exact ⟨s, 1, by omega, .inr ⟨q, e, rfl⟩⟩
        obtain ⟨i, k, ik, hA⟩ := hA
        obtain ⟨j, kk, jk, hB⟩ := hB
        refine ⟨i, k, j, kk, ik, jk, fun o => ?_, hA, hB⟩
        have hl := l_eaten2 h (show j + kk ≤ 16 by omega) rfl (show i + k ≤ 12 by omega) k 1000 i 0 o rfl (by omega)
        unfold F_X11_eaten f_X11_eaten_0 f_X11_eaten_10 f_X11_eaten_13 f_X11_eaten_23 f_X11_eaten_29 f_X11_eaten_39 f_X11_eaten_58 f_X11_eaten_70 f_X11_eaten_90 bnd
        simp (config := {decide := true}) only [e_hasStack _ h, e_hasCow _ h, h6, h7, bI_0, rng_n (show n < 2 ^ 30 by omega), rng_n (show c < 2 ^ 30 by omega), shT_1 h, shR_1_0 h, shT_2 h, ne_eq, not_false_eq_true, and_self, and_true, true_and, not_true_eq_false, if_false, if_true]
        rcases hA with ⟨q1, rfl, rfl⟩ | ⟨q1, e1, rfl⟩ <;> rcases hB with ⟨q2, rfl, rfl⟩ | ⟨q2, e2, rfl⟩
        · rw [Nat.zero_add, Nat.zero_add] at hl
          simp only [if_pos q1, if_pos q2]; exact hl
        · rw [Nat.zero_add] at hl
          have x2 : nI (j + 1) - 1 = b := by rw [e2]; exact nI_pred j
          rw [x2, ← e2] at hl
          simp only [if_pos q1, if_neg q2, if_neg (not_not_intro (qb.resolve_left q2))]; exact hl
        · rw [Nat.zero_add] at hl
          have x1 : nI (i + 1) - 1 = a := by rw [e1]; exact nI_pred i
          rw [x1, ← e1] at hl
          simp only [if_neg q1, if_neg (not_not_intro (qa.resolve_left q1)), if_pos q2]; exact hl
        · have x1 : nI (i + 1) - 1 = a := by rw [e1]; exact nI_pred i
          have x2 : nI (j + 1) - 1 = b := by rw [e2]; exact nI_pred j
          rw [x1, ← e1, x2, ← e2] at hl
          simp only [if_neg q1, if_neg (not_not_intro (qa.resolve_left q1)), if_neg q2, if_neg (not_not_intro (qb.resolve_left q2))]; exact hl
      obtain ⟨i, k, j, kk, ik, jk, hC, hA, hB⟩ := hC
      refine ⟨_, hC, fun o => ?_⟩
      rw [hM]
      congr 1
      -- inner sums
      have inner : ∀ s, s < n → (a = -1 ∨ a = nI s) → sm (fun t => if (a = -1 ∨ a = nI s) ∧ (b = -1 ∨ b = nI t) then gI m 240 (16 * s + t) else 0) 0 0 c = sm (fun t => gI m (10 + 2 * s) t) 0 j kk := fun s hs ha => by
        rcases hB with ⟨q2, rfl, rfl⟩ | ⟨q2, e2, rfl⟩
        · refine sm_congr kk 0 0 (fun t _ ht => ?_)
          rw [if_pos ⟨ha, .inl q2⟩]
          exact hE s t hs (by omega)
        · rw [sm_one (j := j) c 0 0 (by omega) (by omega) (fun t _ ht ne => if_neg (fun z => z.2.elim q2 (fun z => ne ((nI_eq (by omega) (by omega)).mp (e2.symm.trans z)).symm))), if_pos ⟨ha, .inr e2⟩, hE s j hs (by omega)]
          rfl
      rcases hA with ⟨q1, rfl, rfl⟩ | ⟨q1, e1, rfl⟩
      · exact sm_congr k 0 0 (fun s _ hs => inner s (by omega) (.inl q1))
      · rw [sm_one (j := i) n 0 0 (by omega) (by omega) (fun s _ hs ne => sm_none c 0 0 (fun t _ _ => if_neg (fun z => z.1.elim q1 (fun z => ne ((nI_eq (by omega) (by omega)).mp (e1.symm.trans z)).symm)))), inner i (by omega) (.inr e1)]
        rfl
    · refine ⟨-2, fun o => ?_, fun o => ?_⟩
      · unfold F_X11_eaten f_X11_eaten_0 f_X11_eaten_10 f_X11_eaten_13 f_X11_eaten_23 f_X11_eaten_26 bnd
        simp only [e_hasStack _ h, e_hasCow _ h, h6, h7, bI_0, rng_n (show n < 2 ^ 30 by omega), rng_n (show c < 2 ^ 30 by omega), shT_1 h, and_true]
        have q2 : ¬ b = -1 := fun z => qb (.inl z)
        have q3 : ¬ ∃ t, t < c ∧ b = nI t := fun z => qb (.inr z)
        by_cases q1 : a = -1
        · rw [if_pos q1, if_neg q2, if_pos q3]
        · rw [if_neg q1, if_neg (not_not_intro (qa.resolve_left q1)), if_neg q2, if_pos q3]
      · unfold F_X12_eaten f_X12_eaten_0 f_X12_eaten_10 f_X12_eaten_13 f_X12_eaten_23 f_X12_eaten_26 bnd
        simp only [e_isStackM _ h, e_isCowM _ h, h2, h3, bI_0, rng_n (show n < 2 ^ 30 by omega), rng_n (show c < 2 ^ 30 by omega), shT_225 h, and_true]
        have q2 : ¬ b = -1 := fun z => qb (.inl z)
        have q3 : ¬ ∃ t, t < c ∧ b = nI t := fun z => qb (.inr z)
        by_cases q1 : a = -1
        · rw [if_pos q1, if_neg q2, if_pos q3]
        · rw [if_neg q1, if_neg (not_not_intro (qa.resolve_left q1)), if_neg q2, if_pos q3]
  · have q1 : ¬ a = -1 := fun z => qa (.inl z)
    have q3 : ¬ ∃ t, t < n ∧ a = nI t := fun z => qa (.inr z)
    refine ⟨-2, fun o => ?_, fun o => ?_⟩
    · unfold F_X11_eaten f_X11_eaten_0 f_X11_eaten_10 f_X11_eaten_26 bnd
      simp only [e_hasStack _ h, h6, bI_0, rng_n (show n < 2 ^ 30 by omega), shT_1 h, and_true]
      rw [if_neg q1, if_pos q3]
    · unfold F_X12_eaten f_X12_eaten_0 f_X12_eaten_10 f_X12_eaten_26 bnd
      simp only [e_isStackM _ h, h2, bI_0, rng_n (show n < 2 ^ 30 by omega), shT_225 h, and_true]
      rw [if_neg q1, if_pos q3])

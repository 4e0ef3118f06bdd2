/-! ===== how many stand ===== -/
theorem md_top {m : Mm} (h : Sh m) {p : Nat} (hp : isMd p) : gT m p = 6 ∧ gR m p 0 = p + 1 ∧ gT m (p + 1) = 24 ∧ gN m (p + 1) = 12 ∧ gR m p 1 = p + 2 ∧ gT m (p + 2) = 25 ∧ gN m (p + 2) = 16 ∧ gR m p 2 = p + 3 ∧ gT m (p + 3) = 20 ∧ gN m (p + 3) = 5 := by
  rcases hp with rfl | rfl | rfl
  · exact ⟨shT_2 h, shR_2_0 h, shT_3 h, shN_3 h, shR_2_1 h, shT_4 h, shN_4 h, shR_2_2 h, shT_5 h, shN_5 h⟩
  · exact ⟨shT_65 h, shR_65_0 h, shT_66 h, shN_66 h, shR_65_1 h, shT_67 h, shN_67 h, shR_65_2 h, shT_68 h, shN_68 h⟩
  · exact ⟨shT_128 h, shR_128_0 h, shT_129 h, shN_129 h, shR_128_1 h, shT_130 h, shN_130 h, shR_128_2 h, shT_131 h, shN_131 h⟩
/-- from the i-th on, k of them: how many of g are not 0 -/
def sumI (g : Nat → Int32) : Int32 → Nat → Nat → Int32
  | a, _, 0 => a
  | a, i, k + 1 => sumI g (a + if g i = 0 then 0 else 1) (i + 1) k
theorem sumI_congr {g g' : Nat → Int32} : ∀ (k i : Nat) (a : Int32), (∀ t, i ≤ t → t < i + k → g t = g' t) → sumI g a i k = sumI g' a i k
  | 0, _, _, _ => rfl
  | k + 1, i, a, h => by
    unfold sumI
    rw [h i (by omega) (by omega)]
    exact sumI_congr k (i + 1) _ (fun t h1 h2 => h t (by omega) (by omega))
theorem l_standing {m : Mm} (h : Sh m) {p n : Nat} (hp : isMd p) (hn : n ≤ 12) (h6 : gI m p 6 = nI n) : ∀ (k N i : Nat) (a : Int32) (o : Prop), i + k = n → k < N → f_X5_standingCount_4 N p a (nI i) m o = (sumI (fun t => gI m (p + 7 + 2 * t) 7) a i k, m, o) := by
  obtain ⟨t1, t2, t3, t4, -⟩ := md_top h hp
  intro k
  induction k with
  | zero =>
    intro N i a o hi hN
    obtain ⟨N, rfl⟩ : ∃ N', N = N' + 1 := ⟨N - 1, by omega⟩
    show f_X5_standingCount_4b (f_X5_standingCount_4 N) p a (nI i) m o = _
    unfold f_X5_standingCount_4b
    rw [h6, if_pos (nI_le (by omega) (by omega))]
    simp [t1, sumI]
  | succ k ih =>
    intro N i a o hi hN
    obtain ⟨N, rfl⟩ : ∃ N', N = N' + 1 := ⟨N - 1, by omega⟩
    obtain ⟨r1, r2, -⟩ := md_stk h hp (show i < 12 by omega)
    have hin : vp_in (nI i) 12 := vp_in_nI (by omega) (by omega)
    have p1 : ¬ p + 1 = 0 := by omega
    have p2 : ¬ p + 7 + 2 * i = 0 := by omega
    show f_X5_standingCount_4b (f_X5_standingCount_4 N) p a (nI i) m o = _
    unfold f_X5_standingCount_4b f_X5_standingCount_30
    rw [h6, if_neg (nI_ge (by omega) (by omega))]
    simp only [ix, nI_clamp (show i < 2 ^ 31 by omega), t1, t2, t3, t4, r1, r2, hin, p1, p2, ne_eq, not_false_eq_true, and_self, and_true, nI_1]
    rw [ih N (i + 1) _ o (by omega) (by omega), ih N (i + 1) _ o (by omega) (by omega), sumI]
    by_cases q : gI m (p + 7 + 2 * i) 7 = 0
    · rw [if_pos q, if_pos q]
    · rw [if_neg q, if_neg q]

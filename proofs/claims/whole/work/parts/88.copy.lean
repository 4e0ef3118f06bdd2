/-! ===== a meadow copied, the class ===== -/
theorem l_copyS {m : Mm} (h : Sh m) {q q' : Nat} (hq : q ≠ 0 ∧ q' ≠ 0) (hqq : q + 1 ≠ q' + 1) (r2 : gT m q = 8) (r3 : gR m q 8 = q + 1) (r4 : gT m (q + 1) = 20) (r5 : gN m (q + 1) = 16) (u2 : gT m q' = 8) (u3 : gR m q' 8 = q' + 1) (u4 : gT m (q' + 1) = 20) (u5 : gN m (q' + 1) = 16) : ∀ (k N i : Nat) (o : Prop), i + k = 16 → k < N → f_X7_copyFrom_66 N q q' (nI i) (fil m (q + 1) 0 i (gI m (q' + 1))) o = ((), fil m (q + 1) 0 16 (gI m (q' + 1)), o) := by
  have r2 : ∀ i, gT (fil m (q + 1) 0 i (gI m (q' + 1))) q = 8 := fun i => r2
  have r3 : ∀ i, gR (fil m (q + 1) 0 i (gI m (q' + 1))) q 8 = q + 1 := fun i => r3
  have r4 : ∀ i, gT (fil m (q + 1) 0 i (gI m (q' + 1))) (q + 1) = 20 := fun i => r4
  have r5 : ∀ i, gN (fil m (q + 1) 0 i (gI m (q' + 1))) (q + 1) = 16 := fun i => r5
  have u2 : ∀ i, gT (fil m (q + 1) 0 i (gI m (q' + 1))) q' = 8 := fun i => u2
  have u3 : ∀ i, gR (fil m (q + 1) 0 i (gI m (q' + 1))) q' 8 = q' + 1 := fun i => u3
  have u4 : ∀ i, gT (fil m (q + 1) 0 i (gI m (q' + 1))) (q' + 1) = 20 := fun i => u4
  have u5 : ∀ i, gN (fil m (q + 1) 0 i (gI m (q' + 1))) (q' + 1) = 16 := fun i => u5
  have n1 : ¬ q + 1 = 0 := by omega
  have n2 : ¬ q' + 1 = 0 := by omega
  intro k
  induction k with
  | zero =>
    intro N i o hi hN
    obtain ⟨N, rfl⟩ : ∃ N1, N = N1 + 1 := ⟨N - 1, by omega⟩
    show f_X7_copyFrom_66b (f_X7_copyFrom_66 N) q q' (nI i) _ o = _
    obtain rfl : i = 16 := by omega
    unfold f_X7_copyFrom_66b
    rw [if_pos (by decide)]
  | succ k ih =>
    intro N i o hi hN
    obtain ⟨N, rfl⟩ : ∃ N1, N = N1 + 1 := ⟨N - 1, by omega⟩
    have hin : vp_in (nI i) 16 := vp_in_nI (by omega) (by omega)
    have hg : gI (fil m (q + 1) 0 i (gI m (q' + 1))) (q' + 1) i = gI m (q' + 1) i := by rw [gI_fil, if_neg (by omega)]
    have hs := fil_1 m (q + 1) 0 i (gI m (q' + 1))
    rw [Nat.zero_add] at hs
    show f_X7_copyFrom_66b (f_X7_copyFrom_66 N) q q' (nI i) _ o = _
    unfold f_X7_copyFrom_66b f_X7_copyFrom_84
    rw [if_neg (show ¬ (16 : Int32) ≤ nI (i) from nI_ge (a := i) (b := 16) (by omega) (by omega))]
    simp (config := {decide := true}) only [ix_nI (show i < 2 ^ 31 by omega), r2, r3, r4, r5, u2, u3, u4, u5, n1, n2, hin, hg, hs, nI_1, ne_eq, not_false_eq_true, and_self, and_true, true_and, and_false, false_and, true_or, or_true, false_or, or_false, not_true_eq_false, if_false, if_true]
    exact ih N (i + 1) o (by omega) (by omega)
theorem e_copyS {m : Mm} (h : Sh m) {p p' s : Nat} (hp : isMd p) (hp' : isMd p') (hpp : p ≠ p') (hs : s < 12) (h7 : gI m (p' + 7 + 2 * s) 7 = 0 ∨ gI m (p' + 7 + 2 * s) 7 = 1) : ∃ m', (∀ o, F_X7_copyFrom (p + 7 + 2 * s) (p' + 7 + 2 * s) m o = ((), m', o)) ∧ Fr (fun q _ => q = p + 7 + 2 * s ∨ q = p + 8 + 2 * s) m m' ∧ (∀ f, f < 8 → gI m' (p + 7 + 2 * s) f = gI m (p' + 7 + 2 * s) f) ∧ (∀ i, i < 16 → gI m' (p + 8 + 2 * s) i = gI m (p' + 8 + 2 * s) i) := by
  obtain ⟨-, r2, r3, r4, r5⟩ := md_stk h hp hs
  obtain ⟨-, u2, u3, u4, u5⟩ := md_stk h hp' hs
  have i1 : p + 8 + 2 * s = p + 7 + 2 * s + 1 := by omega
  have i2 : p' + 8 + 2 * s = p' + 7 + 2 * s + 1 := by omega
  rw [i1] at r3 r4 r5
  rw [i2] at u3 u4 u5
  rw [i1, i2]
  have hq : p + 7 + 2 * s ≠ p' + 7 + 2 * s := by omega
  have hq0 : p + 7 + 2 * s ≠ 0 := by omega
  have hq1 : p' + 7 + 2 * s ≠ 0 := by omega
  have hqx : p + 7 + 2 * s ≠ p' + 7 + 2 * s + 1 := by rcases hp with rfl | rfl | rfl <;> rcases hp' with rfl | rfl | rfl <;> omega
  generalize p + 7 + 2 * s = q at *
  generalize p' + 7 + 2 * s = q' at *
  have hl := fun o => l_copyS (m := sI (sI (sI (sI (sI (sI (sI (sI m q 0 (gI m q' 0)) q 1 (gI m q' 1)) q 2 (gI m q' 2)) q 3 (gI m q' 3)) q 4 (gI m q' 4)) q 5 (gI m q' 5)) q 6 (gI m q' 6)) q 7 (gI m q' 7)) h ⟨hq0, hq1⟩ (by omega) r2 r3 r4 r5 u2 u3 u4 u5 16 1000 0 o (by omega) (by omega)
  rw [fil_0, nI_0] at hl
  have hne : (q' = q) = False := eq_false (fun z => hq z.symm)
  refine ⟨_, fun o => by
    simp (config := {decide := true}) only [f_X7_copyFrom_84, f_X7_copyFrom_64, f_X7_copyFrom_56, f_X7_copyFrom_48, f_X7_copyFrom_40, f_X7_copyFrom_32, f_X7_copyFrom_24, f_X7_copyFrom_16, f_X7_copyFrom_8, f_X7_copyFrom_0, F_X7_copyFrom, gI_sI, gT_sI, r2, u2, hne, h7, ne_eq, not_false_eq_true, and_self, and_true, true_and, and_false, false_and, true_or, or_true, false_or, or_false, not_true_eq_false, if_false, if_true]
    exact hl o, ?_, fun f hf => ?_, fun i hi => ?_⟩
  · refine ⟨rfl, fun x i hx => ?_⟩
    rw [gI_fil, if_neg (fun z => hx (.inr z.1))]
    have hx1 : x ≠ q := fun z => hx (.inl z)
    simp only [gI_sI, hx1, false_and, if_false]
  · rw [gI_fil, if_neg (by omega)]
    have : f = 0 ∨ f = 1 ∨ f = 2 ∨ f = 3 ∨ f = 4 ∨ f = 5 ∨ f = 6 ∨ f = 7 := by omega
    rcases this with rfl | rfl | rfl | rfl | rfl | rfl | rfl | rfl <;> simp [gI_sI]
  · rw [gI_fil, if_pos ⟨rfl, by omega, by omega⟩, Nat.sub_zero]
    simp only [gI_sI]
    have hx2 : q' + 1 ≠ q := fun z => hqx z.symm
    simp only [hx2, false_and, if_false]
theorem l_copyC {m : Mm} (h : Sh m) {q q' : Nat} (hq : q ≠ 0 ∧ q' ≠ 0) (hqq : q + 1 ≠ q' + 1) (r2 : gT m q = 2) (r3 : gR m q 5 = q + 1) (r4 : gT m (q + 1) = 20) (r5 : gN m (q + 1) = 5) (u2 : gT m q' = 2) (u3 : gR m q' 5 = q' + 1) (u4 : gT m (q' + 1) = 20) (u5 : gN m (q' + 1) = 5) : ∀ (k N i : Nat) (o : Prop), i + k = 5 → k < N → f_X1_copyFrom_42 N q q' (nI i) (fil m (q + 1) 0 i (gI m (q' + 1))) o = ((), fil m (q + 1) 0 5 (gI m (q' + 1)), o) := by
  have r2 : ∀ i, gT (fil m (q + 1) 0 i (gI m (q' + 1))) q = 2 := fun i => r2
  have r3 : ∀ i, gR (fil m (q + 1) 0 i (gI m (q' + 1))) q 5 = q + 1 := fun i => r3
  have r4 : ∀ i, gT (fil m (q + 1) 0 i (gI m (q' + 1))) (q + 1) = 20 := fun i => r4
  have r5 : ∀ i, gN (fil m (q + 1) 0 i (gI m (q' + 1))) (q + 1) = 5 := fun i => r5
  have u2 : ∀ i, gT (fil m (q + 1) 0 i (gI m (q' + 1))) q' = 2 := fun i => u2
  have u3 : ∀ i, gR (fil m (q + 1) 0 i (gI m (q' + 1))) q' 5 = q' + 1 := fun i => u3
  have u4 : ∀ i, gT (fil m (q + 1) 0 i (gI m (q' + 1))) (q' + 1) = 20 := fun i => u4
  have u5 : ∀ i, gN (fil m (q + 1) 0 i (gI m (q' + 1))) (q' + 1) = 5 := fun i => u5
  have n1 : ¬ q + 1 = 0 := by omega
  have n2 : ¬ q' + 1 = 0 := by omega
  intro k
  induction k with
  | zero =>
    intro N i o hi hN
    obtain ⟨N, rfl⟩ : ∃ N1, N = N1 + 1 := ⟨N - 1, by omega⟩
    show f_X1_copyFrom_42b (f_X1_copyFrom_42 N) q q' (nI i) _ o = _
    obtain rfl : i = 5 := by omega
    unfold f_X1_copyFrom_42b
    rw [if_pos (by decide)]
  | succ k ih =>
    intro N i o hi hN
    obtain ⟨N, rfl⟩ : ∃ N1, N = N1 + 1 := ⟨N - 1, by omega⟩
    have hin : vp_in (nI i) 5 := vp_in_nI (by omega) (by omega)
    have hg : gI (fil m (q + 1) 0 i (gI m (q' + 1))) (q' + 1) i = gI m (q' + 1) i := by rw [gI_fil, if_neg (by omega)]
    have hs := fil_1 m (q + 1) 0 i (gI m (q' + 1))
    rw [Nat.zero_add] at hs
    show f_X1_copyFrom_42b (f_X1_copyFrom_42 N) q q' (nI i) _ o = _
    unfold f_X1_copyFrom_42b f_X1_copyFrom_59
    rw [if_neg (show ¬ (5 : Int32) ≤ nI (i) from nI_ge (a := i) (b := 5) (by omega) (by omega))]
    simp (config := {decide := true}) only [ix_nI (show i < 2 ^ 31 by omega), r2, r3, r4, r5, u2, u3, u4, u5, n1, n2, hin, hg, hs, nI_1, ne_eq, not_false_eq_true, and_self, and_true, true_and, and_false, false_and, true_or, or_true, false_or, or_false, not_true_eq_false, if_false, if_true]
    exact ih N (i + 1) o (by omega) (by omega)
theorem e_copyC {m : Mm} (h : Sh m) {p p' s : Nat} (hp : isMd p) (hp' : isMd p') (hpp : p ≠ p') (hs : s < 16) : ∃ m', (∀ o, F_X1_copyFrom (p + 31 + 2 * s) (p' + 31 + 2 * s) m o = ((), m', o)) ∧ Fr (fun q _ => q = p + 31 + 2 * s ∨ q = p + 32 + 2 * s) m m' ∧ (∀ f, f < 5 → gI m' (p + 31 + 2 * s) f = gI m (p' + 31 + 2 * s) f) ∧ (∀ i, i < 5 → gI m' (p + 32 + 2 * s) i = gI m (p' + 32 + 2 * s) i) := by
  obtain ⟨-, r2, r3, r4, r5⟩ := md_cow h hp hs
  obtain ⟨-, u2, u3, u4, u5⟩ := md_cow h hp' hs
  have i1 : p + 32 + 2 * s = p + 31 + 2 * s + 1 := by omega
  have i2 : p' + 32 + 2 * s = p' + 31 + 2 * s + 1 := by omega
  rw [i1] at r3 r4 r5
  rw [i2] at u3 u4 u5
  rw [i1, i2]
  have hq : p + 31 + 2 * s ≠ p' + 31 + 2 * s := by omega
  have hq0 : p + 31 + 2 * s ≠ 0 := by omega
  have hq1 : p' + 31 + 2 * s ≠ 0 := by omega
  have hqx : p + 31 + 2 * s ≠ p' + 31 + 2 * s + 1 := by rcases hp with rfl | rfl | rfl <;> rcases hp' with rfl | rfl | rfl <;> omega
  generalize p + 31 + 2 * s = q at *
  generalize p' + 31 + 2 * s = q' at *
  have hl := fun o => l_copyC (m := sI (sI (sI (sI (sI m q 0 (gI m q' 0)) q 1 (gI m q' 1)) q 2 (gI m q' 2)) q 3 (gI m q' 3)) q 4 (gI m q' 4)) h ⟨hq0, hq1⟩ (by omega) r2 r3 r4 r5 u2 u3 u4 u5 5 1000 0 o (by omega) (by omega)
  rw [fil_0, nI_0] at hl
  have hne : (q' = q) = False := eq_false (fun z => hq z.symm)
  refine ⟨_, fun o => by
    simp (config := {decide := true}) only [f_X1_copyFrom_59, f_X1_copyFrom_40, f_X1_copyFrom_32, f_X1_copyFrom_24, f_X1_copyFrom_16, f_X1_copyFrom_8, f_X1_copyFrom_0, F_X1_copyFrom, gI_sI, gT_sI, r2, u2, hne, ne_eq, not_false_eq_true, and_self, and_true, true_and, and_false, false_and, true_or, or_true, false_or, or_false, not_true_eq_false, if_false, if_true]
    exact hl o, ?_, fun f hf => ?_, fun i hi => ?_⟩
  · refine ⟨rfl, fun x i hx => ?_⟩
    rw [gI_fil, if_neg (fun z => hx (.inr z.1))]
    have hx1 : x ≠ q := fun z => hx (.inl z)
    simp only [gI_sI, hx1, false_and, if_false]
  · rw [gI_fil, if_neg (by omega)]
    have : f = 0 ∨ f = 1 ∨ f = 2 ∨ f = 3 ∨ f = 4 := by omega
    rcases this with rfl | rfl | rfl | rfl | rfl <;> simp [gI_sI]
  · rw [gI_fil, if_pos ⟨rfl, by omega, by omega⟩, Nat.sub_zero]
    simp only [gI_sI]
    have hx2 : q' + 1 ≠ q := fun z => hqx z.symm
    simp only [hx2, false_and, if_false]
/-- two meadows that agree where it counts -/
def ag (a b : Nat → Nat → Int32) (n c : Nat) : Prop := (∀ i, 6 ≤ i → i ≤ 11 → b 0 i = a 0 i) ∧ (∀ s, s < n → (∀ f, f < 8 → b (7 + 2 * s) f = a (7 + 2 * s) f) ∧ ∀ i, i < 16 → b (8 + 2 * s) i = a (8 + 2 * s) i) ∧ (∀ s, s < c → (∀ f, f < 5 → b (31 + 2 * s) f = a (31 + 2 * s) f) ∧ ∀ i, i < 5 → b (32 + 2 * s) i = a (32 + 2 * s) i) ∧ ∀ k, k < 5 → b 3 k = a 3 k
theorem Fr_at {P : Nat → Nat → Prop} {m m' : Mm} (h : Fr P m m') {q i : Nat} (hq : ¬ P q i) : gI m' q i = gI m q i := h.2 q i hq
theorem l_cpK {m0 : Mm} (h0 : Sh m0) {p p' : Nat} (hp : isMd p) (hp' : isMd p') (hpp : p ≠ p') : ∀ (k N i : Nat) (m : Mm), i + k = 5 → k < N → Fr (fun q j => q = p + 3 ∧ j < i) m0 m → (∀ x, x < i → gI m (p + 3) x = gI m0 (p' + 3) x) → ∃ m', (∀ o, f_X5_copyFrom_112 N p p' (nI i) m o = ((), m', o)) ∧ Fr (fun q j => q = p + 3 ∧ j < 5) m0 m' ∧ ∀ x, x < 5 → gI m' (p + 3) x = gI m0 (p' + 3) x := by
  intro k
  induction k with
  | zero =>
    intro N i m hi hN hF hv
    obtain ⟨N, rfl⟩ : ∃ N1, N = N1 + 1 := ⟨N - 1, by omega⟩
    obtain rfl : i = 5 := by omega
    refine ⟨m, fun o => ?_, hF, hv⟩
    show f_X5_copyFrom_112b (f_X5_copyFrom_112 N) p p' (nI 5) m o = _
    unfold f_X5_copyFrom_112b
    rw [if_pos (by decide)]
  | succ k ih =>
    intro N i m hi hN hF hv
    obtain ⟨N, rfl⟩ : ∃ N1, N = N1 + 1 := ⟨N - 1, by omega⟩
    have h := Fr_Sh hF h0
    obtain ⟨t1, -, -, -, -, -, -, t8, t9, t10⟩ := md_top h hp
    obtain ⟨v1, -, -, -, -, -, -, v8, v9, v10⟩ := md_top h hp'
    have n1 : ¬ p + 3 = 0 := by omega
    have n2 : ¬ p' + 3 = 0 := by omega
    have hin : vp_in (nI i) 5 := vp_in_nI (by omega) (by omega)
    have hrd : gI m (p' + 3) i = gI m0 (p' + 3) i := Fr_at hF (by omega)
    obtain ⟨m', b1, b2, b3⟩ := ih N (i + 1) (sI m (p + 3) i (gI m0 (p' + 3) i)) (by omega) (by omega) (Fr_sI (Fr_mono hF (fun q j hq => ⟨hq.1, by omega⟩)) ⟨rfl, by omega⟩ _) (fun x hx => by
      rw [gI_sI]
      by_cases q : x = i
      · subst q; rw [if_pos ⟨rfl, rfl⟩]
      · rw [if_neg (fun z => q z.2)]; exact hv x (by omega))
    refine ⟨m', fun o => ?_, b2, b3⟩
    show f_X5_copyFrom_112b (f_X5_copyFrom_112 N) p p' (nI i) m o = _
    unfold f_X5_copyFrom_112b f_X5_copyFrom_129
    rw [if_neg (show ¬ (5 : Int32) ≤ nI (i) from nI_ge (a := i) (b := 5) (by omega) (by omega))]
    simp (config := {decide := true}) only [ix_nI (show i < 2 ^ 31 by omega), t1, t8, t9, t10, v1, v8, v9, v10, n1, n2, hin, hrd, nI_1, ne_eq, not_false_eq_true, and_self, and_true, true_and, and_false, false_and, true_or, or_true, false_or, or_false, not_true_eq_false, if_false, if_true]
    exact b1 o
theorem l_cpC {m0 : Mm} (h0 : Sh m0) {p p' c : Nat} (hp : isMd p) (hp' : isMd p') (hpp : p ≠ p') (hc : c ≤ 16) (h7 : gI m0 p 7 = nI c) (r : Mm → Prop → Unit × Mm × Prop) (hr : ∀ m o, f_X5_copyFrom_112 1000 p p' 0 m o = r m o) : ∀ (k N i : Nat) (m : Mm), i + k = c → k < N → Fr (fun q _ => p + 31 ≤ q ∧ q < p + 31 + 2 * i) m0 m → (∀ s, s < i → (∀ f, f < 5 → gI m (p + 31 + 2 * s) f = gI m0 (p' + 31 + 2 * s) f) ∧ ∀ f, f < 5 → gI m (p + 32 + 2 * s) f = gI m0 (p' + 32 + 2 * s) f) → ∃ m', (∀ o, f_X5_copyFrom_81 N p p' (nI i) m o = r m' o) ∧ Fr (fun q _ => p + 31 ≤ q ∧ q < p + 31 + 2 * c) m0 m' ∧ ∀ s, s < c → (∀ f, f < 5 → gI m' (p + 31 + 2 * s) f = gI m0 (p' + 31 + 2 * s) f) ∧ ∀ f, f < 5 → gI m' (p + 32 + 2 * s) f = gI m0 (p' + 32 + 2 * s) f := by
  intro k
  induction k with
  | zero =>
    intro N i m hi hN hF hv
    obtain ⟨N, rfl⟩ : ∃ N1, N = N1 + 1 := ⟨N - 1, by omega⟩
    obtain rfl : i = c := by omega
    have h := Fr_Sh hF h0
    obtain ⟨t1, -⟩ := md_top h hp
    have h7' : gI m p 7 = nI i := (Fr_at hF (by omega)).trans h7
    refine ⟨m, fun o => ?_, hF, hv⟩
    show f_X5_copyFrom_81b (f_X5_copyFrom_81 N) p p' (nI i) m o = _
    unfold f_X5_copyFrom_81b
    rw [h7', if_pos (nI_le (by omega) (by omega)), hr]
    simp only [t1, and_true]
  | succ k ih =>
    intro N i m hi hN hF hv
    obtain ⟨N, rfl⟩ : ∃ N1, N = N1 + 1 := ⟨N - 1, by omega⟩
    have h := Fr_Sh hF h0
    obtain ⟨t1, -, -, -, t5, t6, t7, -⟩ := md_top h hp
    obtain ⟨v1, -, -, -, v5, v6, v7, -⟩ := md_top h hp'
    obtain ⟨w1, w2, -⟩ := md_cow h hp (show i < 16 by omega)
    obtain ⟨x1, x2, -⟩ := md_cow h hp' (show i < 16 by omega)
    have h7' : gI m p 7 = nI c := (Fr_at hF (by omega)).trans h7
    have n1 : ¬ p + 2 = 0 := by omega
    have n2 : ¬ p' + 2 = 0 := by omega
    have n3 : ¬ p + 31 + 2 * i = 0 := by omega
    have n4 : ¬ p' + 31 + 2 * i = 0 := by omega
    have hin : vp_in (nI i) 16 := vp_in_nI (by omega) (by omega)
    obtain ⟨m1, c1, c2, c3, c4⟩ := e_copyC h hp hp' hpp (show i < 16 by omega)
    have hpd : p' + 63 ≤ p ∨ p + 63 ≤ p' := by rcases hp with rfl | rfl | rfl <;> rcases hp' with rfl | rfl | rfl <;> omega
    obtain ⟨m', b1, b2, b3⟩ := ih N (i + 1) m1 (by omega) (by omega) (Fr_trans (Fr_mono hF (fun q j hq => ⟨hq.1, by omega⟩)) (Fr_mono c2 (fun q j hq => ⟨by omega, by omega⟩))) (fun s hs => by
      by_cases q : s = i
      · subst q
        exact ⟨fun f hf => (c3 f hf).trans (Fr_at hF (by omega)), fun f hf => (c4 f hf).trans (Fr_at hF (by omega))⟩
      · exact ⟨fun f hf => (Fr_at c2 (by omega)).trans ((hv s (by omega)).1 f hf), fun f hf => (Fr_at c2 (by omega)).trans ((hv s (by omega)).2 f hf)⟩)
    refine ⟨m', fun o => ?_, b2, b3⟩
    show f_X5_copyFrom_81b (f_X5_copyFrom_81 N) p p' (nI i) m o = _
    unfold f_X5_copyFrom_81b f_X5_copyFrom_104 bnd
    rw [h7', if_neg (nI_ge (by omega) (by omega))]
    simp (config := {decide := true}) only [ix_nI (show i < 2 ^ 31 by omega), t1, t5, t6, t7, v1, v5, v6, v7, w1, w2, x1, x2, n1, n2, n3, n4, hin, c1, nI_1, ne_eq, not_false_eq_true, and_self, and_true, true_and, and_false, false_and, true_or, or_true, false_or, or_false, not_true_eq_false, if_false, if_true]
    exact b1 o
theorem l_cpS {m0 : Mm} (h0 : Sh m0) {p p' n : Nat} (hp : isMd p) (hp' : isMd p') (hpp : p ≠ p') (hn : n ≤ 12) (h6 : gI m0 p 6 = nI n) (hst : ∀ s, s < n → gI m0 (p' + 7 + 2 * s) 7 = 0 ∨ gI m0 (p' + 7 + 2 * s) 7 = 1) (r : Mm → Prop → Unit × Mm × Prop) (hr : ∀ m o, f_X5_copyFrom_81 1000 p p' 0 m o = r m o) : ∀ (k N i : Nat) (m : Mm), i + k = n → k < N → Fr (fun q _ => p + 7 ≤ q ∧ q < p + 7 + 2 * i) m0 m → (∀ s, s < i → (∀ f, f < 8 → gI m (p + 7 + 2 * s) f = gI m0 (p' + 7 + 2 * s) f) ∧ ∀ f, f < 16 → gI m (p + 8 + 2 * s) f = gI m0 (p' + 8 + 2 * s) f) → ∃ m', (∀ o, f_X5_copyFrom_50 N p p' (nI i) m o = r m' o) ∧ Fr (fun q _ => p + 7 ≤ q ∧ q < p + 7 + 2 * n) m0 m' ∧ ∀ s, s < n → (∀ f, f < 8 → gI m' (p + 7 + 2 * s) f = gI m0 (p' + 7 + 2 * s) f) ∧ ∀ f, f < 16 → gI m' (p + 8 + 2 * s) f = gI m0 (p' + 8 + 2 * s) f := by
  have hpd : p' + 63 ≤ p ∨ p + 63 ≤ p' := by rcases hp with rfl | rfl | rfl <;> rcases hp' with rfl | rfl | rfl <;> omega
  intro k
  induction k with
  | zero =>
    intro N i m hi hN hF hv
    obtain ⟨N, rfl⟩ : ∃ N1, N = N1 + 1 := ⟨N - 1, by omega⟩
    obtain rfl : i = n := by omega
    have h := Fr_Sh hF h0
    obtain ⟨t1, -⟩ := md_top h hp
    have h6' : gI m p 6 = nI i := (Fr_at hF (by omega)).trans h6
    refine ⟨m, fun o => ?_, hF, hv⟩
    show f_X5_copyFrom_50b (f_X5_copyFrom_50 N) p p' (nI i) m o = _
    unfold f_X5_copyFrom_50b
    rw [h6', if_pos (nI_le (by omega) (by omega)), hr]
    simp only [t1, and_true]
  | succ k ih =>
    intro N i m hi hN hF hv
    obtain ⟨N, rfl⟩ : ∃ N1, N = N1 + 1 := ⟨N - 1, by omega⟩
    have h := Fr_Sh hF h0
    obtain ⟨t1, t2, t3, t4, -⟩ := md_top h hp
    obtain ⟨v1, v2, v3, v4, -⟩ := md_top h hp'
    obtain ⟨w1, w2, -⟩ := md_stk h hp (show i < 12 by omega)
    obtain ⟨x1, x2, -⟩ := md_stk h hp' (show i < 12 by omega)
    have h6' : gI m p 6 = nI n := (Fr_at hF (by omega)).trans h6
    have n1 : ¬ p + 1 = 0 := by omega
    have n2 : ¬ p' + 1 = 0 := by omega
    have n3 : ¬ p + 7 + 2 * i = 0 := by omega
    have n4 : ¬ p' + 7 + 2 * i = 0 := by omega
    have hin : vp_in (nI i) 12 := vp_in_nI (by omega) (by omega)
    obtain ⟨m1, c1, c2, c3, c4⟩ := e_copyS h hp hp' hpp (show i < 12 by omega) (by rw [Fr_at hF (by omega)]; exact hst i (by omega))
    obtain ⟨m', b1, b2, b3⟩ := ih N (i + 1) m1 (by omega) (by omega) (Fr_trans (Fr_mono hF (fun q j hq => ⟨hq.1, by omega⟩)) (Fr_mono c2 (fun q j hq => ⟨by omega, by omega⟩))) (fun s hs => by
      by_cases q : s = i
      · subst q
        exact ⟨fun f hf => (c3 f hf).trans (Fr_at hF (by omega)), fun f hf => (c4 f hf).trans (Fr_at hF (by omega))⟩
      · exact ⟨fun f hf => (Fr_at c2 (by omega)).trans ((hv s (by omega)).1 f hf), fun f hf => (Fr_at c2 (by omega)).trans ((hv s (by omega)).2 f hf)⟩)
    refine ⟨m', fun o => ?_, b2, b3⟩
    show f_X5_copyFrom_50b (f_X5_copyFrom_50 N) p p' (nI i) m o = _
    unfold f_X5_copyFrom_50b f_X5_copyFrom_73 bnd
    rw [h6', if_neg (nI_ge (by omega) (by omega))]
    simp (config := {decide := true}) only [ix_nI (show i < 2 ^ 31 by omega), t1, t2, t3, t4, v1, v2, v3, v4, w1, w2, x1, x2, n1, n2, n3, n4, hin, c1, nI_1, ne_eq, not_false_eq_true, and_self, and_true, true_and, and_false, false_and, true_or, or_true, false_or, or_false, not_true_eq_false, if_false, if_true]
    exact b1 o
/-- a meadow copied: where it counts it is the other's -/
theorem e_copyFrom {m : Mm} (h : Sh m) {p p' : Nat} (hp : isMd p) (hp' : isMd p') (hpp : p ≠ p') {a : Nat → Nat → Int32} {n c : Nat} (hM : Md m p' a) (hW : WfA a n c) : ∃ m' b, (∀ o, F_X5_copyFrom p p' m o = ((), m', o)) ∧ Fr (fun q _ => inM p q) m m' ∧ Md m' p b ∧ ag a b n c := by
  obtain ⟨⟨⟨hn, hc⟩, w3, w4, -⟩, w7, -⟩ := hW
  have hpd : p' + 63 ≤ p ∨ p + 63 ≤ p' := by rcases hp with rfl | rfl | rfl <;> rcases hp' with rfl | rfl | rfl <;> omega
  obtain ⟨t1, -⟩ := md_top h hp
  obtain ⟨v1, -⟩ := md_top h hp'
  have hne : (p' = p) = False := eq_false (fun z => hpp z.symm)
  generalize hm1 : sI (sI (sI (sI (sI (sI m p 6 (gI m p' 6)) p 7 (gI m p' 7)) p 8 (gI m p' 8)) p 9 (gI m p' 9)) p 10 (gI m p' 10)) p 11 (gI m p' 11) = m1
  have hF1 : Fr (fun q _ => inM p q) m m1 := by
    have hi : inM p p := ⟨by omega, by omega, by omega⟩
    rw [← hm1]
    refine Fr_sI (Fr_sI (Fr_sI (Fr_sI (Fr_sI (Fr_sI (Fr_refl _ m) ?_ _) ?_ _) ?_ _) ?_ _) ?_ _) ?_ _ <;> exact hi
  have hF1' : Fr (fun q _ => q = p) m m1 := by
    rw [← hm1]
    refine Fr_sI (Fr_sI (Fr_sI (Fr_sI (Fr_sI (Fr_sI (Fr_refl _ m) ?_ _) ?_ _) ?_ _) ?_ _) ?_ _) ?_ _ <;> rfl
  have hnum : ∀ i, 6 ≤ i → i ≤ 11 → gI m1 p i = gI m p' i := fun i h1 h2 => by
    rw [← hm1]
    have : i = 6 ∨ i = 7 ∨ i = 8 ∨ i = 9 ∨ i = 10 ∨ i = 11 := by omega
    rcases this with rfl | rfl | rfl | rfl | rfl | rfl <;> simp [gI_sI]
  have h1 := Fr_Sh hF1 h
  have g6 : gI m p' 6 = nI n := (hM 0 6 (by omega) (by omega)).trans w3
  have g7 : gI m p' 7 = nI c := (hM 0 7 (by omega) (by omega)).trans w4
  obtain ⟨m2, a1, a2, a3⟩ := l_cpS h1 hp hp' hpp hn ((hnum 6 (by omega) (by omega)).trans g6) (fun s hs => by
    rw [Fr_at hF1' (by omega), Md_at hM (j := 7 + 2 * s) (by omega) (by omega) (by omega)]
    exact (w7 s hs).2.2.2.2.2.2.2) _ (fun _ _ => rfl) n 1000 0 m1 (by omega) (by omega) (Fr_refl _ m1) (fun s hs => by omega)
  have h2 := Fr_Sh a2 h1
  have g7' : gI m2 p 7 = nI c := (Fr_at a2 (by omega)).trans ((hnum 7 (by omega) (by omega)).trans g7)
  obtain ⟨m3, b1, b2, b3⟩ := l_cpC h2 hp hp' hpp hc g7' _ (fun _ _ => rfl) c 1000 0 m2 (by omega) (by omega) (Fr_refl _ m2) (fun s hs => by omega)
  have h3 := Fr_Sh b2 h2
  obtain ⟨m4, c1, c2, c3⟩ := l_cpK h3 hp hp' hpp 5 1000 0 m3 (by omega) (by omega) (Fr_refl _ m3) (fun s hs => by omega)
  have i2 : Fr (fun q _ => inM p q) m1 m2 := Fr_mono a2 (fun q j hq => ⟨by omega, by omega, by omega⟩)
  have i3 : Fr (fun q _ => inM p q) m2 m3 := Fr_mono b2 (fun q j hq => ⟨by omega, by omega, by omega⟩)
  have i4 : Fr (fun q _ => inM p q) m3 m4 := Fr_mono c2 (fun q j hq => ⟨by omega, by omega, by omega⟩)
  rw [nI_0] at a1 b1 c1
  refine ⟨m4, fun j i => gI m4 (p + j) i, fun o => ?_, Fr_trans (Fr_trans (Fr_trans hF1 i2) i3) i4, Md_vw m4 p, ?_, fun s hs => ⟨fun f hf => ?_, fun f hf => ?_⟩, fun s hs => ⟨fun f hf => ?_, fun f hf => ?_⟩, fun k hk => ?_⟩
  · simp (config := {decide := true}) only [f_X5_copyFrom_73, f_X5_copyFrom_104, f_X5_copyFrom_129, f_X5_copyFrom_48, f_X5_copyFrom_40, f_X5_copyFrom_32, f_X5_copyFrom_24, f_X5_copyFrom_16, f_X5_copyFrom_8, f_X5_copyFrom_0, F_X5_copyFrom, gI_sI, gT_sI, t1, v1, hne, hm1, a1, b1, c1, ne_eq, not_false_eq_true, and_self, and_true, true_and, and_false, false_and, true_or, or_true, false_or, or_false, not_true_eq_false, if_false, if_true]
  · intro i h1 h2
    show gI m4 (p + 0) i = _
    rw [Nat.add_zero, Fr_at c2 (by omega), Fr_at b2 (by omega), Fr_at a2 (by omega), hnum i h1 h2]
    exact hM 0 i (by omega) (by omega)
  · show gI m4 (p + (7 + 2 * s)) f = _
    rw [← Nat.add_assoc, Fr_at c2 (by omega), Fr_at b2 (by omega), (a3 s hs).1 f hf, Fr_at hF1' (by omega)]
    exact Md_at hM (by omega) (by omega) (by omega)
  · show gI m4 (p + (8 + 2 * s)) f = _
    rw [← Nat.add_assoc, Fr_at c2 (by omega), Fr_at b2 (by omega), (a3 s hs).2 f hf, Fr_at hF1' (by omega)]
    exact Md_at hM (by omega) (by omega) (by omega)
  · show gI m4 (p + (31 + 2 * s)) f = _
    rw [← Nat.add_assoc, Fr_at c2 (by omega), (b3 s hs).1 f hf, Fr_at a2 (by omega), Fr_at hF1' (by omega)]
    exact Md_at hM (by omega) (by omega) (by omega)
  · show gI m4 (p + (32 + 2 * s)) f = _
    rw [← Nat.add_assoc, Fr_at c2 (by omega), (b3 s hs).2 f hf, Fr_at a2 (by omega), Fr_at hF1' (by omega)]
    exact Md_at hM (by omega) (by omega) (by omega)
  · show gI m4 (p + 3) k = _
    rw [c3 k hk, Fr_at b2 (by omega), Fr_at a2 (by omega), Fr_at hF1' (by omega)]
    exact hM 3 k (by omega) (by omega)
/-- what agrees is as well made, and the other side says the same of it -/
theorem ag_Wf {a b : Nat → Nat → Int32} {n c : Nat} (h : ag a b n c) (hW : WfA a n c) : WfA b n c := by
  obtain ⟨h1, h2, h3, -⟩ := h
  obtain ⟨⟨hnc, w3, w4, w5, w6⟩, w7, w8, w9, w10⟩ := hW
  refine ⟨⟨hnc, ?_, ?_, ?_, ?_⟩, fun s hs => ?_, ?_, fun i hi => ?_, fun s hs i q1 q2 => ?_⟩
  · rw [h1 6 (by omega) (by omega)]; exact w3
  · rw [h1 7 (by omega) (by omega)]; exact w4
  · rw [h1 8 (by omega) (by omega), h1 9 (by omega) (by omega)]; exact w5
  · rw [h1 11 (by omega) (by omega)]; exact w6
  · have := w7 s hs
    have e := (h2 s hs).1
    unfold wS at this ⊢
    rw [e 0 (by omega), e 1 (by omega), e 2 (by omega), e 3 (by omega), e 4 (by omega), e 5 (by omega), e 6 (by omega), e 7 (by omega)]
    exact this
  · rw [hsum_congr (g := fun s => a (7 + 2 * s) 3) (fun s hs => (h2 s hs).1 3 (by omega))]
    exact w8
  · have := w9 i hi
    have e := (h3 i hi).1
    obtain ⟨q1, q2, q3, q4, q5, q6⟩ := this
    refine ⟨?_, ?_, ?_, ?_, ?_, fun j hj => ?_⟩
    · rw [e 0 (by omega)]; exact q1
    · rw [e 1 (by omega)]; exact q2
    · rw [e 2 (by omega)]; exact q3
    · rw [e 3 (by omega)]; exact q4
    · rw [e 4 (by omega)]; exact q5
    · rw [(h3 i hi).2 j hj]; exact q6 j hj
  · rw [(h2 s hs).2 i q2]
    exact w10 s hs i q1 q2
theorem ag_Eq {a b r : Nat → Nat → Int32} {k n c : Nat} {d : Nat → Int32} (h : ag a b n c) (hc : c ≤ 16) (hE : EqA a r k n c d) : EqA b r k n c d := by
  obtain ⟨h1, h2, h3, h4⟩ := h
  obtain ⟨e1, e2, e3, e4⟩ := hE
  refine ⟨fun s hs => ?_, fun i hi => ?_, fun j hj => ?_, fun s hs i hi => ?_⟩
  · have := e1 s hs
    have e := (h2 s hs).1
    unfold eS at this ⊢
    rw [e 0 (by omega), e 1 (by omega), e 2 (by omega), e 3 (by omega), e 4 (by omega), e 5 (by omega), e 6 (by omega), e 7 (by omega)]
    exact this
  · obtain ⟨q1, q2, q3, q4, q5⟩ := e2 i hi
    have e := (h3 i hi).1
    refine ⟨?_, ?_, ?_, ?_, fun j hj => ?_⟩
    · rw [e 0 (by omega), e 1 (by omega)]; exact q1
    · rw [e 2 (by omega)]; exact q2
    · rw [e 3 (by omega)]; exact q3
    · rw [e 4 (by omega)]; exact q4
    · rw [(h3 i hi).2 j hj]; exact q5 j hj
  · rw [h4 j hj]; exact e3 j hj
  · rw [(h2 s hs).2 i (by omega)]; exact e4 s hs i hi
theorem ag_N {a b : Nat → Nat → Int32} {n c : Nat} {num : Nat → Int32} (h : ag a b n c) (hN : eN (a 0) num) : eN (b 0) num := by
  unfold eN at hN ⊢
  rw [h.1 6 (by omega) (by omega), h.1 7 (by omega) (by omega), h.1 8 (by omega) (by omega), h.1 9 (by omega) (by omega), h.1 10 (by omega) (by omega), h.1 11 (by omega) (by omega)]
  exact hN

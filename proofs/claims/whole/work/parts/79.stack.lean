/-! ===== fills, searches; stack ===== -/
/-- from lo on, k of place q are B -/
def fil (m : Mm) (q lo k : Nat) (B : Nat → Int32) : Mm := uI m (fun x i => if x = q ∧ lo ≤ i ∧ i < lo + k then B (i - lo) else gI m x i)
theorem gI_fil (m : Mm) (q lo k : Nat) (B : Nat → Int32) (x i : Nat) : gI (fil m q lo k B) x i = if x = q ∧ lo ≤ i ∧ i < lo + k then B (i - lo) else gI m x i := rfl
theorem gT_fil (m : Mm) (q lo k : Nat) (B : Nat → Int32) (x : Nat) : gT (fil m q lo k B) x = gT m x := rfl
theorem gR_fil (m : Mm) (q lo k : Nat) (B : Nat → Int32) (x i : Nat) : gR (fil m q lo k B) x i = gR m x i := rfl
theorem Sh_fil {m : Mm} (h : Sh m) (q lo k : Nat) (B : Nat → Int32) : Sh (fil m q lo k B) := h
theorem fil_0 (m : Mm) (q lo : Nat) (B : Nat → Int32) : fil m q lo 0 B = m := by
  unfold fil
  rw [← uI_self m, uI_uI]
  refine uI_ext (fun x i => ?_)
  rw [if_neg (by omega)]
  rfl
theorem fil_1 (m : Mm) (q lo k : Nat) (B : Nat → Int32) : sI (fil m q lo k B) q (lo + k) (B k) = fil m q lo (k + 1) B := by
  unfold fil
  rw [sI_uI]
  refine uI_ext (fun x i => ?_)
  by_cases h : x = q ∧ i = lo + k
  · rw [if_pos h, if_pos ⟨h.1, by omega, by omega⟩, h.2, Nat.add_sub_cancel_left]
  · rw [if_neg h]
    by_cases h2 : x = q ∧ lo ≤ i ∧ i < lo + k
    · rw [if_pos h2, if_pos ⟨h2.1, h2.2.1, by omega⟩]
    · rw [if_neg h2, if_neg (by omega)]
/-- whether P holds of one from i on, of k -/
def exI (P : Nat → Prop) [DecidablePred P] : Nat → Nat → Int32
  | _, 0 => 0
  | i, k + 1 => if P i then 1 else exI P (i + 1) k
theorem exI_congr {P Q : Nat → Prop} [DecidablePred P] [DecidablePred Q] : ∀ (k c : Nat), (∀ t, c ≤ t → t < c + k → (P t ↔ Q t)) → exI P c k = exI Q c k
  | 0, _, _ => rfl
  | k + 1, c, h => by
    unfold exI
    rw [exI_congr k (c + 1) (fun t h1 h2 => h t (by omega) (by omega))]
    by_cases q : P c
    · rw [if_pos q, if_pos ((h c (by omega) (by omega)).mp q)]
    · rw [if_neg q, if_neg (fun z => q ((h c (by omega) (by omega)).mpr z))]
theorem exI_01 {P : Nat → Prop} [DecidablePred P] : ∀ (k c : Nat), exI P c k = 0 ∨ exI P c k = 1
  | 0, _ => .inl rfl
  | k + 1, c => by
    unfold exI
    by_cases q : P c
    · rw [if_pos q]; exact .inr rfl
    · rw [if_neg q]; exact exI_01 k (c + 1)
theorem l_hasOn {m : Mm} (h : Sh m) {n : Nat} (x y : Int32) (hn : n ≤ 12) (h6 : gI m 2 6 = nI n) : ∀ (k N i : Nat) (o : Prop), i + k = n → k < N → f_X5_hasStackOn_2 N 2 x y (nI i) m o = (exI (fun s => ¬ gI m (9 + 2 * s) 7 = 0 ∧ gI m (9 + 2 * s) 0 = x ∧ gI m (9 + 2 * s) 1 = y) i k, m, o) := by
  intro k
  induction k with
  | zero =>
    intro N i o hi hN
    obtain ⟨N, rfl⟩ : ∃ N1, N = N1 + 1 := ⟨N - 1, by omega⟩
    show f_X5_hasStackOn_2b (f_X5_hasStackOn_2 N) 2 x y (nI i) m o = _
    unfold f_X5_hasStackOn_2b
    rw [h6, if_pos (nI_le (by omega) (by omega))]
    simp only [shT_2 h, and_true, exI]
  | succ k ih =>
    intro N i o hi hN
    obtain ⟨N, rfl⟩ : ∃ N1, N = N1 + 1 := ⟨N - 1, by omega⟩
    obtain ⟨r1, r2, -⟩ := md_stk h (p := 2) (.inl rfl) (show i < 12 by omega)
    have r1 : gR m 3 i = 9 + 2 * i := r1
    have r2 : gT m (9 + 2 * i) = 8 := r2
    have n1 : ¬ 9 + 2 * i = 0 := by omega
    have hin : vp_in (nI i) 12 := vp_in_nI (by omega) (by omega)
    show f_X5_hasStackOn_2b (f_X5_hasStackOn_2 N) 2 x y (nI i) m o = _
    unfold f_X5_hasStackOn_2b f_X5_hasStackOn_50
    rw [h6, if_neg (nI_ge (by omega) (by omega))]
    simp (config := {decide := true}) only [ix_nI (show i < 2 ^ 31 by omega), shT_2 h, shR_2_0 h, shT_3 h, shN_3 h, r1, r2, n1, hin, ne_eq, not_false_eq_true, and_self, and_true, true_and, and_false, false_and, true_or, or_true, false_or, or_false, not_true_eq_false, if_false, if_true, nI_1, ih N (i + 1) _ (show i + 1 + k = n by omega) (show k < N by omega), exI]
    rcases Classical.propComplete (gI m (9 + 2 * i) 7 = 0) with q1 | q1 <;> rcases Classical.propComplete (gI m (9 + 2 * i) 0 = x) with q2 | q2 <;> rcases Classical.propComplete (gI m (9 + 2 * i) 1 = y) with q3 | q3 <;> simp only [q1, q2, q3, ne_eq, not_false_eq_true, and_self, and_true, true_and, and_false, false_and, true_or, or_true, false_or, or_false, not_true_eq_false, if_false, if_true]
theorem l_raise {m : Mm} (h : Sh m) {n : Nat} (hn : n < 12) : ∀ (k N i : Nat) (o : Prop), i + k = 16 → k < N → f_X7_raise_46 N (9 + 2 * n) (nI i) (fil m (10 + 2 * n) 0 i d0) o = ((), fil m (10 + 2 * n) 0 16 d0, o) := by
  obtain ⟨r1, r2, r3, r4, r5⟩ := md_stk h (p := 2) (.inl rfl) hn
  have r2 : ∀ i, gT (fil m (10 + 2 * n) 0 i d0) (9 + 2 * n) = 8 := fun i => r2
  have r3 : ∀ i, gR (fil m (10 + 2 * n) 0 i d0) (9 + 2 * n) 8 = 10 + 2 * n := fun i => r3
  have r4 : ∀ i, gT (fil m (10 + 2 * n) 0 i d0) (10 + 2 * n) = 20 := fun i => r4
  have r5 : ∀ i, gN (fil m (10 + 2 * n) 0 i d0) (10 + 2 * n) = 16 := fun i => r5
  have n1 : ¬ 10 + 2 * n = 0 := by omega
  intro k
  induction k with
  | zero =>
    intro N i o hi hN
    obtain ⟨N, rfl⟩ : ∃ N1, N = N1 + 1 := ⟨N - 1, by omega⟩
    show f_X7_raise_46b (f_X7_raise_46 N) (9 + 2 * n) (nI i) _ o = _
    obtain rfl : i = 16 := by omega
    unfold f_X7_raise_46b
    rw [if_pos (by decide)]
  | succ k ih =>
    intro N i o hi hN
    obtain ⟨N, rfl⟩ : ∃ N1, N = N1 + 1 := ⟨N - 1, by omega⟩
    have hin : vp_in (nI i) 16 := vp_in_nI (by omega) (by omega)
    show f_X7_raise_46b (f_X7_raise_46 N) (9 + 2 * n) (nI i) _ o = _
    unfold f_X7_raise_46b f_X7_raise_61
    rw [if_neg (show ¬ (16 : Int32) ≤ nI (i) from nI_ge (a := i) (b := 16) (by omega) (by omega))]
    have hs := fil_1 m (10 + 2 * n) 0 i d0
    rw [Nat.zero_add, show d0 i = 0 from rfl] at hs
    simp (config := {decide := true}) only [ix_nI (show i < 2 ^ 31 by omega), r2, r3, r4, r5, n1, hin, ne_eq, not_false_eq_true, and_self, and_true, true_and, and_false, false_and, true_or, or_true, false_or, or_false, not_true_eq_false, if_false, if_true, hs, nI_1, ih N (i + 1) _ (show i + 1 + k = 16 by omega) (show k < N by omega)]
def stkC (m : Mm) (n : Nat) (x y k h v w : Int32) : Mm := sI (fil (sI (sI (sI (sI (sI (sI (sI (sI m (9 + 2 * n) 0 x) (9 + 2 * n) 1 y) (9 + 2 * n) 2 k) (9 + 2 * n) 3 h) (9 + 2 * n) 4 v) (9 + 2 * n) 5 w) (9 + 2 * n) 6 0) (9 + 2 * n) 7 1) (10 + 2 * n) 0 16 d0) 2 6 (nI (n + 1))
def okS (x y k h v w : Int32) : Prop := ((0 ≤ x ∧ x ≤ 9) ∧ (0 ≤ y ∧ y ≤ 9)) ∧ (0 ≤ k ∧ k ≤ 4) ∧ (0 ≤ h ∧ h ≤ 999) ∧ (0 ≤ v ∧ v ≤ 99) ∧ (0 ≤ w ∧ w ≤ 99)
theorem e_stack {m : Mm} (hS : Sh m) {n : Nat} (hn : n < 12) (h6 : gI m 2 6 = nI n) {x y k h v w : Int32} (hok : okS x y k h v w) (o : Prop) : F_X11_stack 1 x y k h v w m o = if exI (fun s => ¬ gI m (9 + 2 * s) 7 = 0 ∧ gI m (9 + 2 * s) 0 = x ∧ gI m (9 + 2 * s) 1 = y) 0 n = 0 then (nI n, stkC m n x y k h v w, o) else (-2, m, o) := by
  obtain ⟨q1, q2, q3, q4, q5⟩ := hok
  obtain ⟨r1, r2, -⟩ := md_stk hS (p := 2) (.inl rfl) hn
  have r1 : gR m 3 n = 9 + 2 * n := r1
  have r2 : gT m (9 + 2 * n) = 8 := r2
  have n1 : ¬ 9 + 2 * n = 0 := by omega
  have hin : vp_in (nI n) 12 := vp_in_nI (by omega) (by omega)
  have h12 : (nI n < (12 : Int32)) = True := eq_true (nI_lt (a := n) (b := 12) hn (by omega))
  have hl := fun o => l_hasOn hS x y (show n ≤ 12 by omega) h6 n 1000 0 o (by omega) (by omega)
  rw [nI_0] at hl
  have hon : ∀ o, F_X5_hasStackOn 2 x y m o = (exI (fun s => ¬ gI m (9 + 2 * s) 7 = 0 ∧ gI m (9 + 2 * s) 0 = x ∧ gI m (9 + 2 * s) 1 = y) 0 n, m, o) := hl
  have hr : ∀ o, F_X7_raise (9 + 2 * n) x y k h v w m o = ((), fil (sI (sI (sI (sI (sI (sI (sI (sI m (9 + 2 * n) 0 x) (9 + 2 * n) 1 y) (9 + 2 * n) 2 k) (9 + 2 * n) 3 h) (9 + 2 * n) 4 v) (9 + 2 * n) 5 w) (9 + 2 * n) 6 0) (9 + 2 * n) 7 1) (10 + 2 * n) 0 16 d0, o) := fun o => by
    have hl2 := l_raise (m := sI (sI (sI (sI (sI (sI (sI (sI m (9 + 2 * n) 0 x) (9 + 2 * n) 1 y) (9 + 2 * n) 2 k) (9 + 2 * n) 3 h) (9 + 2 * n) 4 v) (9 + 2 * n) 5 w) (9 + 2 * n) 6 0) (9 + 2 * n) 7 1) hS hn 16 1000 0 o (by omega) (by omega)
    rw [fil_0, nI_0] at hl2
    simp (config := {decide := true}) only [f_X7_raise_61, f_X7_raise_43, f_X7_raise_38, f_X7_raise_33, f_X7_raise_27, f_X7_raise_21, f_X7_raise_15, f_X7_raise_10, f_X7_raise_5, f_X7_raise_0, F_X7_raise, gT_sI, r2, ne_eq, not_false_eq_true, and_self, and_true, true_and, and_false, false_and, true_or, or_true, false_or, or_false, not_true_eq_false, if_false, if_true, hl2]
  have h6' : gI (fil (sI (sI (sI (sI (sI (sI (sI (sI m (9 + 2 * n) 0 x) (9 + 2 * n) 1 y) (9 + 2 * n) 2 k) (9 + 2 * n) 3 h) (9 + 2 * n) 4 v) (9 + 2 * n) 5 w) (9 + 2 * n) 6 0) (9 + 2 * n) 7 1) (10 + 2 * n) 0 16 d0) 2 6 = nI n := by
    rw [gI_fil, if_neg (by omega)]
    simp only [gI_sI]
    rw [if_neg (by omega), if_neg (by omega), if_neg (by omega), if_neg (by omega), if_neg (by omega), if_neg (by omega), if_neg (by omega), if_neg (by omega)]
    exact h6
  simp (config := {decide := true}) only [f_X11_stack_73, f_X11_stack_134, f_X11_stack_121, f_X11_stack_84, f_X11_stack_54, f_X11_stack_53, f_X11_stack_46, f_X11_stack_35, f_X11_stack_24, f_X11_stack_12, f_X11_stack_5, f_X11_stack_0, F_X11_stack, bnd, e_isSquare, e_isColour, e_isWithin, bI_0, q1, q2, q3, q4, q5, hon, h6, h12, hr, h6', gT_fil, gR_fil, gR_sI, gT_sI, shT_1 hS, shR_1_0 hS, shT_2 hS, shR_2_0 hS, shT_3 hS, shN_3 hS, ix_nI (show n < 2 ^ 31 by omega), r1, r2, n1, hin, nI_1, stkC, ne_eq, not_false_eq_true, and_self, and_true, true_and, and_false, false_and, true_or, or_true, false_or, or_false, not_true_eq_false, if_false, if_true]
theorem e_stack0 {m : Mm} (hS : Sh m) {n : Nat} (hn : n ≤ 12) (h6 : gI m 2 6 = nI n) {x y k h v w : Int32} (hok : ¬ (okS x y k h v w ∧ n < 12)) (o : Prop) : F_X11_stack 1 x y k h v w m o = (-1, m, o) := by
  unfold okS at hok
  have h12 : (nI n < (12 : Int32)) = (n < 12) := propext (nI_ltI (a := n) (b := 12) (by omega) (by omega))
  simp (config := {decide := true}) only [f_X11_stack_73, f_X11_stack_134, f_X11_stack_121, f_X11_stack_84, f_X11_stack_54, f_X11_stack_53, f_X11_stack_46, f_X11_stack_35, f_X11_stack_24, f_X11_stack_12, f_X11_stack_5, f_X11_stack_0, F_X11_stack, bnd, e_isSquare, e_isColour, e_isWithin, bI_0, h6, h12, shT_1 hS, shR_1_0 hS, shT_2 hS, ne_eq, not_false_eq_true, and_self, and_true, true_and, and_false, false_and, true_or, or_true, false_or, or_false, not_true_eq_false, if_false, if_true]
  rcases Classical.propComplete ((0 ≤ x ∧ x ≤ 9) ∧ (0 ≤ y ∧ y ≤ 9)) with q1 | q1 <;> rcases Classical.propComplete (0 ≤ k ∧ k ≤ 4) with q2 | q2 <;> rcases Classical.propComplete (0 ≤ h ∧ h ≤ 999) with q3 | q3 <;> rcases Classical.propComplete (0 ≤ v ∧ v ≤ 99) with q4 | q4 <;> rcases Classical.propComplete (0 ≤ w ∧ w ≤ 99) with q5 | q5 <;> rcases Classical.propComplete (n < 12) with q6 | q6 <;> simp (config := {decide := true}) only [q1, q2, q3, q4, q5, q6, ne_eq, not_false_eq_true, and_self, and_true, true_and, and_false, false_and, true_or, or_true, false_or, or_false, not_true_eq_false, if_false, if_true] at hok ⊢

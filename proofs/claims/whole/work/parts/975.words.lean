/-! ===== salted: words read, and whether they fit ===== -/
/-- the words by the bytes B: cow, stack, day -/
def wCow (B : Nat → Nat) (i : Nat) : Nat := B (3 * i)
def wStk (B : Nat → Nat) (i : Nat) : Int32 := if B (3 * i + 1) = 255 then -1 else nI (B (3 * i + 1))
def wDay (B : Nat → Nat) (i : Nat) : Nat := B (3 * i + 2)
def okW (B : Nat → Nat) (n c i : Nat) : Prop := wCow B i < c ∧ (B (3 * i + 1) = 255 ∨ B (3 * i + 1) < n) ∧ wDay B i < 10
def wrdC (B : Nat → Nat) (m : Mm) (i : Nat) : Prop := ∀ j, j < i → gI m 198 j = nI (wCow B j) ∧ gI m 199 j = wStk B j ∧ gI m 200 j = nI (wDay B j)
def wrdM (B : Nat → Nat) (m : Mm) (i : Nat) : Prop := ∀ j, j < i → gI m 278 j = nI (wCow B j) ∧ gI m 279 j = wStk B j ∧ gI m 280 j = nI (wDay B j)
theorem wStk_lt {B : Nat → Nat} (hB : ∀ i, B i < 256) {n : Nat} (hn : n ≤ 12) (i : Nat) : (nI n ≤ wStk B i) ↔ ¬ (B (3 * i + 1) = 255 ∨ B (3 * i + 1) < n) := by
  have := hB (3 * i + 1)
  unfold wStk
  by_cases q : B (3 * i + 1) = 255
  · rw [if_pos q]
    exact ⟨fun z => absurd z (by
      intro z
      have h0 : (0 : Int32) ≤ -1 := Int32.le_trans (nI_pos' (n := n) (by omega)) z
      exact absurd h0 (by decide)), fun z => absurd (.inl q) z⟩
  · rw [if_neg q, nI_leI (by omega) (by omega)]
    omega
def rdP (q i : Nat) : Prop := q = 198 ∨ q = 199 ∨ q = 200 ∨ (q = 197 ∧ (i = 4 ∨ i = 5))
theorem l_read {m0 : Mm} (h0 : Sh m0) {B : Nat → Nat} (hB : ∀ i, B i < 256) {t nw n c : Nat} (ht : t ≤ 220) (hnw : 3 * nw ≤ t) (hn30 : nw ≤ 30) (hn : n ≤ 12) (hc : c ≤ 16) (h1 : gI m0 191 1 = nI t) (hb : ∀ i, i < t → gI m0 192 i = nI (B i)) (h6 : gI m0 2 6 = nI n) (h7 : gI m0 2 7 = nI c) : ∀ (k N i L : Nat) (v : Int32) (m : Mm), i + k = nw → k < N → Fr rdP m0 m → wrdC B m i → gI m 197 5 = nI L → L < 256 → (∀ j, j < i → wDay B j ≤ L) → (v = 0 ∨ v = 1) → (v = 1 ↔ ∀ j, j < i → okW B n c j) → ∃ m' L' r, (∀ o, f_X10_readFrom_16 N 197 191 (nI nw) 2 v (nI i) m o = (r, m', o)) ∧ Fr rdP m0 m' ∧ gI m' 197 4 = gI m 197 4 ∧ wrdC B m' nw ∧ gI m' 197 5 = nI L' ∧ L' < 256 ∧ (∀ j, j < nw → wDay B j ≤ L') ∧ (r = 0 ∨ r = 1) ∧ (r = 1 ↔ ∀ j, j < nw → okW B n c j) := by
  intro k
  induction k with
  | zero =>
    intro N i L v m hi hN hF hw hL hL2 hmax hv hiff
    obtain ⟨N, rfl⟩ : ∃ N1, N = N1 + 1 := ⟨N - 1, by omega⟩
    obtain rfl : i = nw := by omega
    refine ⟨m, L, v, fun o => ?_, hF, rfl, hw, hL, hL2, hmax, hv, hiff⟩
    show f_X10_readFrom_16b (f_X10_readFrom_16 N) 197 191 (nI i) 2 v (nI i) m o = _
    unfold f_X10_readFrom_16b
    rw [if_pos (Int32.le_refl _)]
    simp only [eq_true hv, and_true]
  | succ k ih =>
    intro N i L v m hi hN hF hw hL hL2 hmax hv hiff
    obtain ⟨N, rfl⟩ : ∃ N1, N = N1 + 1 := ⟨N - 1, by omega⟩
    have h := Fr_Sh hF h0
    have g1 : gI m 191 1 = nI t := (Fr_at hF (by unfold rdP; omega)).trans h1
    have gb : ∀ x, x < t → gI m 192 x = nI (B x) := fun x hx => (Fr_at hF (by unfold rdP; omega)).trans (hb x hx)
    have g6 : gI m 2 6 = nI n := (Fr_at hF (by unfold rdP; omega)).trans h6
    have g7 : gI m 2 7 = nI c := (Fr_at hF (by unfold rdP; omega)).trans h7
    have b0 := hB (3 * i)
    have b1 := hB (3 * i + 1)
    have b2 := hB (3 * i + 2)
    have e0 : (3 : Int32) * nI i = nI (3 * i) := by rw [show (3 : Int32) = nI 3 from rfl, pk_mul]
    have e1 : nI (3 * i) + (1 : Int32) = nI (3 * i + 1) := nI_add _ 1
    have e2 : nI (3 * i) + (2 : Int32) = nI (3 * i + 2) := nI_add _ 2
    have hin : vp_in (nI i) 30 := vp_in_nI (by omega) (by omega)
    have mxL : (if nI L < nI (B (3 * i + 2)) then nI (B (3 * i + 2)) else nI L) = nI (if L < B (3 * i + 2) then B (3 * i + 2) else L) := by
      have : (nI L < nI (B (3 * i + 2))) = (L < B (3 * i + 2)) := propext (nI_ltI (by omega) (by omega))
      simp only [this]
      by_cases q : L < B (3 * i + 2)
      · rw [if_pos q, if_pos q]
      · rw [if_neg q, if_neg q]
    generalize hm5 : sI (sI (sI (sI m 198 i (nI (B (3 * i)))) 199 i (wStk B i)) 200 i (nI (B (3 * i + 2)))) 197 5 (nI (if L < B (3 * i + 2) then B (3 * i + 2) else L)) = m5
    have F5 : Fr rdP m0 m5 := by
      rw [← hm5]
      refine Fr_sI (Fr_sI (Fr_sI (Fr_sI hF ?_ _) ?_ _) ?_ _) ?_ _ <;> unfold rdP <;> omega
    have w5 : wrdC B m5 (i + 1) := fun j hj => by
      rw [← hm5]
      by_cases q : j = i
      · subst q
        refine ⟨?_, ?_, ?_⟩ <;> simp [gI_sI, wCow, wDay]
      · simp only [gI_sI, q, and_false, if_false]
        refine ⟨?_, ?_, ?_⟩
        · rw [if_neg (by omega)]; exact (hw j (by omega)).1
        · rw [if_neg (by omega)]; exact (hw j (by omega)).2.1
        · rw [if_neg (by omega)]; exact (hw j (by omega)).2.2
    have l5 : gI m5 197 5 = nI (if L < B (3 * i + 2) then B (3 * i + 2) else L) := by rw [← hm5, gI_sI, if_pos ⟨rfl, rfl⟩]
    have g4 : gI m5 197 4 = gI m 197 4 := by rw [← hm5]; simp [gI_sI]
    have hok : okW B n c i ↔ (¬ nI c ≤ nI (B (3 * i)) ∧ ¬ nI n ≤ wStk B i ∧ ¬ (10 : Int32) ≤ nI (B (3 * i + 2))) := by
      rw [wStk_lt hB hn, Classical.not_not]
      have a1 : (nI c ≤ nI (B (3 * i))) ↔ c ≤ B (3 * i) := nI_leI (by omega) (by omega)
      have a2 : ((10 : Int32) ≤ nI (B (3 * i + 2))) ↔ 10 ≤ B (3 * i + 2) := nI_leI (a := 10) (by omega) (by omega)
      rw [a1, a2]
      unfold okW wCow wDay
      constructor
      · rintro ⟨z1, z2, z3⟩; exact ⟨by omega, z2, by omega⟩
      · rintro ⟨z1, z2, z3⟩; exact ⟨by omega, z2, by omega⟩
    have nxt : ∀ v', (v' = 0 ∨ v' = 1) → (v' = 1 ↔ (v = 1 ∧ okW B n c i)) → ∃ m' L' r, (∀ o, f_X10_readFrom_16 N 197 191 (nI nw) 2 v' (nI (i + 1)) m5 o = (r, m', o)) ∧ Fr rdP m0 m' ∧ gI m' 197 4 = gI m 197 4 ∧ wrdC B m' nw ∧ gI m' 197 5 = nI L' ∧ L' < 256 ∧ (∀ j, j < nw → wDay B j ≤ L') ∧ (r = 0 ∨ r = 1) ∧ (r = 1 ↔ ∀ j, j < nw → okW B n c j) := fun v' z1 z2 => by
      obtain ⟨m', L', r, q1, q2, q3, q4⟩ := ih N (i + 1) (if L < B (3 * i + 2) then B (3 * i + 2) else L) v' m5 (by omega) (by omega) F5 w5 l5 (by by_cases q : L < B (3 * i + 2) <;> simp only [q, if_true, if_false] <;> omega) (fun j hj => by
        by_cases q : j = i
        · subst q
          unfold wDay
          by_cases q : L < B (3 * j + 2) <;> simp only [q, if_true, if_false] <;> omega
        · have := hmax j (by omega)
          by_cases q : L < B (3 * i + 2) <;> simp only [q, if_true, if_false] <;> omega) z1 (z2.trans ⟨fun z j hj => by
        by_cases q : j = i
        · rw [q]; exact z.2
        · exact hiff.mp z.1 j (by omega), fun z => ⟨hiff.mpr (fun j hj => z j (by omega)), z i (by omega)⟩⟩)
      exact ⟨m', L', r, q1, q2, q3.trans g4, q4⟩
    have pre : ∀ o, f_X10_readFrom_16b (f_X10_readFrom_16 N) 197 191 (nI nw) 2 v (nI i) m o = (if v = 0 then f_X10_readFrom_16 N 197 191 (nI nw) 2 0 (nI (i + 1)) m5 o else if nI c ≤ nI (B (3 * i)) then f_X10_readFrom_16 N 197 191 (nI nw) 2 0 (nI (i + 1)) m5 o else if nI n ≤ wStk B i then f_X10_readFrom_16 N 197 191 (nI nw) 2 0 (nI (i + 1)) m5 o else if (10 : Int32) ≤ nI (B (3 * i + 2)) then f_X10_readFrom_16 N 197 191 (nI nw) 2 0 (nI (i + 1)) m5 o else f_X10_readFrom_16 N 197 191 (nI nw) 2 1 (nI (i + 1)) m5 o) := fun o => by
      rw [← hm5]
      unfold f_X10_readFrom_16b
      rw [if_neg (nI_ge (by omega) (by omega))]
      have e255 : (nI (B (3 * i + 1)) = (255 : Int32)) = (B (3 * i + 1) = 255) := propext (nI_eq (a := B (3 * i + 1)) (b := 255) (by omega) (by omega))
      have s1 : Sh (sI m 198 i (nI (B (3 * i)))) := h
      have s2 : Sh (sI (sI m 198 i (nI (B (3 * i)))) 199 i (wStk B i)) := h
      have y1 : gI (sI m 198 i (nI (B (3 * i)))) 191 1 = nI t := g1
      have y2 : gI (sI (sI m 198 i (nI (B (3 * i)))) 199 i (wStk B i)) 191 1 = nI t := g1
      have x1 := fun o => e_byteAt h ht (show 3 * i + 1 < t by omega) g1 o
      have x0 := fun o => e_byteAt h ht (show 3 * i < t by omega) g1 o
      have x2 := fun o => e_byteAt s2 ht (show 3 * i + 2 < t by omega) y2 o
      have x2' : gI (sI (sI m 198 i (nI (B (3 * i)))) 199 i (wStk B i)) 192 (3 * i + 2) = nI (B (3 * i + 2)) := gb _ (by omega)
      have st : ∀ (K : Nat → Nat → Int32 → Nat → Int32 → Int32 → Mm → Prop → Int32 × Mm × Prop) o, f_X10_readFrom_49 K 197 191 (nI nw) 2 v (nI i) (nI (B (3 * i + 1))) (sI m 198 i (nI (B (3 * i)))) o = f_X10_readFrom_69 K 197 191 (nI nw) 2 v (nI i) (wStk B i) (nI i) 199 (sI m 198 i (nI (B (3 * i)))) o := fun K o => by
        unfold f_X10_readFrom_49 wStk
        rw [shR_197_1 s1]
        simp only [e255]
        by_cases q : B (3 * i + 1) = 255
        · rw [if_pos q, if_pos q]
          simp (config := {decide := true}) only [shT_197 s1, ne_eq, not_false_eq_true, and_self, and_true, true_and, and_false, false_and, true_or, or_true, false_or, or_false, not_true_eq_false, if_false, if_true]
        · rw [if_neg q, if_neg q]
          simp (config := {decide := true}) only [shT_197 s1, ne_eq, not_false_eq_true, and_self, and_true, true_and, and_false, false_and, true_or, or_true, false_or, or_false, not_true_eq_false, if_false, if_true]
      simp (config := {decide := true}) only [f_X10_readFrom_32, f_X10_readFrom_48, bnd, e0, e1, shT_197 h, shR_197_0 h, shT_191 h, shT_198 h, shN_198 h, x0, x1, gb (3 * i) (show 3 * i < t by omega), gb (3 * i + 1) (show 3 * i + 1 < t by omega), hin, ix_nI (show i < 2 ^ 31 by omega), st, ne_eq, not_false_eq_true, and_self, and_true, true_and, and_false, false_and, true_or, or_true, false_or, or_false, not_true_eq_false, if_false, if_true]
      simp (config := {decide := true}) only [f_X10_readFrom_69, f_X10_readFrom_70, f_X10_readFrom_86, bnd, e0, e2, shT_199 s1, shN_199 s1, shT_191 s2, shT_197 s2, shR_197_2 s2, shT_200 s2, shN_200 s2, hin, ix_nI (show i < 2 ^ 31 by omega), x2, x2', ne_eq, not_false_eq_true, and_self, and_true, true_and, and_false, false_and, true_or, or_true, false_or, or_false, not_true_eq_false, if_false, if_true]
      simp (config := {decide := true}) only [f_X10_readFrom_87, f_X10_readFrom_105, f_X10_readFrom_154, f_X10_readFrom_155, shT_197 h, shR_197_0 h, shR_197_1 h, shR_197_2 h, shT_198 h, shN_198 h, shT_199 h, shN_199 h, shT_200 h, shN_200 h, shT_2 h, gI_sI, gT_sI, gN_sI, gR_sI, hL, mxL, g6, g7, hin, ix_nI (show i < 2 ^ 31 by omega), nI_1, ne_eq, not_false_eq_true, and_self, and_true, true_and, and_false, false_and, true_or, or_true, false_or, or_false, not_true_eq_false, if_false, if_true]
    by_cases q0 : v = 0
    · obtain ⟨m', L', r, q1, q2⟩ := nxt 0 (.inl rfl) ⟨fun z => absurd z (by decide), fun z => absurd (q0.symm.trans z.1) (by decide)⟩
      refine ⟨m', L', r, fun o => ?_, q2⟩
      show f_X10_readFrom_16b (f_X10_readFrom_16 N) 197 191 (nI nw) 2 v (nI i) m o = _
      rw [pre, if_pos q0]; exact q1 o
    · have hv1 := hv.resolve_left q0
      by_cases z : okW B n c i
      · obtain ⟨z1, z2, z3⟩ := hok.mp z
        obtain ⟨m', L', r, q1, q2⟩ := nxt 1 (.inr rfl) ⟨fun _ => ⟨hv1, z⟩, fun _ => rfl⟩
        refine ⟨m', L', r, fun o => ?_, q2⟩
        show f_X10_readFrom_16b (f_X10_readFrom_16 N) 197 191 (nI nw) 2 v (nI i) m o = _
        rw [pre, if_neg q0, if_neg z1, if_neg z2, if_neg z3]; exact q1 o
      · obtain ⟨m', L', r, q1, q2⟩ := nxt 0 (.inl rfl) ⟨fun y => absurd y (by decide), fun y => absurd y.2 z⟩
        refine ⟨m', L', r, fun o => ?_, q2⟩
        show f_X10_readFrom_16b (f_X10_readFrom_16 N) 197 191 (nI nw) 2 v (nI i) m o = _
        rw [pre, if_neg q0]
        by_cases z1 : nI c ≤ nI (B (3 * i))
        · rw [if_pos z1]; exact q1 o
        · rw [if_neg z1]
          by_cases z2 : nI n ≤ wStk B i
          · rw [if_pos z2]; exact q1 o
          · rw [if_neg z2]
            by_cases z3 : (10 : Int32) ≤ nI (B (3 * i + 2))
            · rw [if_pos z3]; exact q1 o
            · exact absurd (hok.mpr ⟨z1, z2, z3⟩) z

/-! ===== stack, the other side; the pair ===== -/
theorem l_stackZ {m : Mm} (h : Sh m) {n : Nat} (hn : n < 12) (h2 : gI m 225 2 = nI n) : ∀ (k N i : Nat) (o : Prop), i + k = 16 → k < N → f_X12_stack_189 N 225 (nI i) (fil m 240 (16 * n) i d0) o = (nI n, sI (fil m 240 (16 * n) 16 d0) 225 2 (nI (n + 1)), o) := by
  have h2' : ∀ i, gI (fil m 240 (16 * n) i d0) 225 2 = nI n := fun i => by rw [gI_fil, if_neg (by omega)]; exact h2
  intro k
  induction k with
  | zero =>
    intro N i o hi hN
    obtain ⟨N, rfl⟩ : ∃ N1, N = N1 + 1 := ⟨N - 1, by omega⟩
    show f_X12_stack_189b (f_X12_stack_189 N) 225 (nI i) _ o = _
    obtain rfl : i = 16 := by omega
    have h' : Sh (fil m 240 (16 * n) 16 d0) := h
    unfold f_X12_stack_189b f_X12_stack_228
    rw [if_pos (by decide)]
    simp (config := {decide := true}) only [h2', gI_sI, gT_sI, shT_225 h', nI_1, nI_pred, ne_eq, not_false_eq_true, and_self, and_true, true_and, and_false, false_and, true_or, or_true, false_or, or_false, not_true_eq_false, if_false, if_true]
  | succ k ih =>
    intro N i o hi hN
    obtain ⟨N, rfl⟩ : ∃ N1, N = N1 + 1 := ⟨N - 1, by omega⟩
    have h' : Sh (fil m 240 (16 * n) i d0) := h
    have hin : vp_in (nI (16 * n + i)) 192 := vp_in_nI (by omega) (by omega)
    show f_X12_stack_189b (f_X12_stack_189 N) 225 (nI i) _ o = _
    unfold f_X12_stack_189b f_X12_stack_212
    rw [if_neg (show ¬ (16 : Int32) ≤ nI (i) from nI_ge (a := i) (b := 16) (by omega) (by omega))]
    have hs := fil_1 m 240 (16 * n) i d0
    rw [show d0 i = 0 from rfl] at hs
    simp (config := {decide := true}) only [h2', (show (16 : Int32) * nI (n) = nI (16 * n) by rw [show (16 : Int32) = nI 16 from rfl, pk_mul]), nI_add, ix_nI (show 16 * n + i < 2 ^ 31 by omega), shT_225 h', shR_225_21 h', shT_240 h', shN_240 h', hin, ne_eq, not_false_eq_true, and_self, and_true, true_and, and_false, false_and, true_or, or_true, false_or, or_false, not_true_eq_false, if_false, if_true, hs, nI_1, ih N (i + 1) _ (show i + 1 + k = 16 by omega) (show k < N by omega)]
def stkM (m : Mm) (n : Nat) (x y k h v w : Int32) : Mm := sI (fil (sI (sI (sI (sI (sI (sI (sI m 227 n (10 * y + x)) 228 n k) 229 n h) 230 n v) 231 n w) 232 n 0) 233 n 1) 240 (16 * n) 16 d0) 225 2 (nI (n + 1))
theorem e_stackEnd {m : Mm} (hS : Sh m) {n : Nat} (hn : n < 12) (h2 : gI m 225 2 = nI n) (x y k h v w : Int32) (o : Prop) : f_X12_stack_123 225 k h v w (sI m 227 n (10 * y + x)) o = (nI n, stkM m n x y k h v w, o) := by
  have hin : vp_in (nI n) 12 := vp_in_nI (by omega) (by omega)
  have hl := l_stackZ (m := sI (sI (sI (sI (sI (sI (sI m 227 n (10 * y + x)) 228 n k) 229 n h) 230 n v) 231 n w) 232 n 0) 233 n 1) hS hn (by simp only [gI_sI]; rw [if_neg (by omega), if_neg (by omega), if_neg (by omega), if_neg (by omega), if_neg (by omega), if_neg (by omega), if_neg (by omega)]; exact h2) 16 1000 0 o (by omega) (by omega)
  rw [fil_0, nI_0] at hl
  have e11 : (1 : Int32) &&& 1 = 1 := by decide
  simp (config := {decide := true}) only [f_X12_stack_123, f_X12_stack_133, f_X12_stack_144, f_X12_stack_155, f_X12_stack_166, f_X12_stack_176, f_X12_stack_186, gI_sI, gT_sI, gN_sI, gR_sI, h2, e11, ix_nI (show n < 2 ^ 31 by omega), hin, shT_225 hS, shR_225_8 hS, shR_225_9 hS, shR_225_10 hS, shR_225_11 hS, shR_225_12 hS, shR_225_13 hS, shR_225_14 hS, shT_227 hS, shN_227 hS, shT_228 hS, shN_228 hS, shT_229 hS, shN_229 hS, shT_230 hS, shN_230 hS, shT_231 hS, shN_231 hS, shT_232 hS, shN_232 hS, shT_233 hS, shN_233 hS, ne_eq, not_false_eq_true, and_self, and_true, true_and, and_false, false_and, true_or, or_true, false_or, or_false, not_true_eq_false, if_false, if_true, hl, stkM]
theorem l_stackM {m : Mm} (hS : Sh m) {n : Nat} (hn : n < 12) (h2 : gI m 225 2 = nI n) (x y k h v w : Int32) : ∀ (c N i : Nat) (o : Prop), i + c = n → c < N → f_X12_stack_64 N 225 x y k h v w (nI i) m o = if exI (fun s => ¬ gI m 233 s = 0 ∧ gI m 227 s = 10 * y + x) i c = 0 then (nI n, stkM m n x y k h v w, o) else (-2, m, o) := by
  intro c
  induction c with
  | zero =>
    intro N i o hi hN
    obtain ⟨N, rfl⟩ : ∃ N1, N = N1 + 1 := ⟨N - 1, by omega⟩
    have hin : vp_in (nI n) 12 := vp_in_nI (by omega) (by omega)
    show f_X12_stack_64b (f_X12_stack_64 N) 225 x y k h v w (nI i) m o = _
    unfold f_X12_stack_64b
    rw [h2, if_pos (nI_le (by omega) (by omega))]
    simp (config := {decide := true}) only [ix_nI (show n < 2 ^ 31 by omega), hin, shT_225 hS, shR_225_8 hS, shT_227 hS, shN_227 hS, ne_eq, not_false_eq_true, and_self, and_true, true_and, and_false, false_and, true_or, or_true, false_or, or_false, not_true_eq_false, if_false, if_true, exI, e_stackEnd hS hn h2]
  | succ c ih =>
    intro N i o hi hN
    obtain ⟨N, rfl⟩ : ∃ N1, N = N1 + 1 := ⟨N - 1, by omega⟩
    have hin : vp_in (nI i) 12 := vp_in_nI (by omega) (by omega)
    show f_X12_stack_64b (f_X12_stack_64 N) 225 x y k h v w (nI i) m o = _
    unfold f_X12_stack_64b f_X12_stack_102
    rw [h2, if_neg (nI_ge (by omega) (by omega))]
    simp (config := {decide := true}) only [ix_nI (show i < 2 ^ 31 by omega), hin, shT_225 hS, shR_225_8 hS, shR_225_14 hS, shT_227 hS, shN_227 hS, shT_233 hS, shN_233 hS, ne_eq, not_false_eq_true, and_self, and_true, true_and, and_false, false_and, true_or, or_true, false_or, or_false, not_true_eq_false, if_false, if_true, nI_1, ih N (i + 1) _ (show i + 1 + c = n by omega) (show c < N by omega), exI]
    rcases Classical.propComplete (gI m 233 i = 0) with q1 | q1 <;> rcases Classical.propComplete (gI m 227 i = 10 * y + x) with q2 | q2 <;> simp (config := {decide := true}) only [q1, q2, ne_eq, not_false_eq_true, and_self, and_true, true_and, and_false, false_and, true_or, or_true, false_or, or_false, not_true_eq_false, if_false, if_true]
theorem e_stackM {m : Mm} (hS : Sh m) {n : Nat} (hn : n < 12) (h2 : gI m 225 2 = nI n) {x y k h v w : Int32} (hok : okS x y k h v w) (o : Prop) : F_X12_stack 225 x y k h v w m o = if exI (fun s => ¬ gI m 233 s = 0 ∧ gI m 227 s = 10 * y + x) 0 n = 0 then (nI n, stkM m n x y k h v w, o) else (-2, m, o) := by
  obtain ⟨⟨q1, q1'⟩, q2, q3, q4, q5⟩ := hok
  have hl := fun o => l_stackM hS hn h2 x y k h v w n 1000 0 o (by omega) (by omega)
  rw [nI_0] at hl
  have hb := e_lies h 0 999
  rw [show Int32.toInt64 0 = 0 by decide, show Int32.toInt64 999 = 999 by decide] at hb
  have h12 : (nI n = (12 : Int32)) = False := eq_false (fun z => by have := (nI_eq (a := n) (b := 12) (by omega) (by omega)).mp z; omega)
  simp (config := {decide := true}) only [f_X12_stack_59, f_X12_stack_102, f_X12_stack_212, f_X12_stack_228, f_X12_stack_186, f_X12_stack_176, f_X12_stack_166, f_X12_stack_155, f_X12_stack_144, f_X12_stack_133, f_X12_stack_123, f_X12_stack_47, f_X12_stack_39, f_X12_stack_31, f_X12_stack_18, f_X12_stack_11, f_X12_stack_4, f_X12_stack_0, F_X12_stack, bnd, e_isSideM, e_isColourM, hb, e_isFullM, bI_0, q1, q1', q2, q3, q4, q5, h2, h12, shT_225 hS, ne_eq, not_false_eq_true, and_self, and_true, true_and, and_false, false_and, true_or, or_true, false_or, or_false, not_true_eq_false, if_false, if_true, hl]
theorem e_stackM0 {m : Mm} (hS : Sh m) {n : Nat} (hn : n ≤ 12) (h2 : gI m 225 2 = nI n) {x y k h v w : Int32} (hok : ¬ (okS x y k h v w ∧ n < 12)) (o : Prop) : F_X12_stack 225 x y k h v w m o = (-1, m, o) := by
  unfold okS at hok
  have hb := e_lies h 0 999
  rw [show Int32.toInt64 0 = 0 by decide, show Int32.toInt64 999 = 999 by decide] at hb
  have h12 : (nI n = (12 : Int32)) = (n = 12) := propext (nI_eq (a := n) (b := 12) (by omega) (by omega))
  have h13 : (n < 12) = ¬ (n = 12) := propext ⟨fun _ => by omega, fun _ => by omega⟩
  rw [h13] at hok
  simp (config := {decide := true}) only [f_X12_stack_59, f_X12_stack_102, f_X12_stack_212, f_X12_stack_228, f_X12_stack_186, f_X12_stack_176, f_X12_stack_166, f_X12_stack_155, f_X12_stack_144, f_X12_stack_133, f_X12_stack_123, f_X12_stack_47, f_X12_stack_39, f_X12_stack_31, f_X12_stack_18, f_X12_stack_11, f_X12_stack_4, f_X12_stack_0, F_X12_stack, bnd, e_isSideM, e_isColourM, hb, e_isFullM, bI_0, h2, h12, shT_225 hS, ne_eq, not_false_eq_true, and_self, and_true, true_and, and_false, false_and, true_or, or_true, false_or, or_false, not_true_eq_false, if_false, if_true]
  rcases Classical.propComplete (0 ≤ x ∧ x ≤ 9) with q1 | q1 <;> rcases Classical.propComplete (0 ≤ y ∧ y ≤ 9) with q0 | q0 <;> rcases Classical.propComplete (0 ≤ k ∧ k ≤ 4) with q2 | q2 <;> rcases Classical.propComplete (0 ≤ h ∧ h ≤ 999) with q3 | q3 <;> rcases Classical.propComplete (0 ≤ v ∧ v ≤ 99) with q4 | q4 <;> rcases Classical.propComplete (0 ≤ w ∧ w ≤ 99) with q5 | q5 <;> rcases Classical.propComplete (n = 12) with q6 | q6 <;> simp (config := {decide := true}) only [q0, q1, q2, q3, q4, q5, q6, ne_eq, not_false_eq_true, and_self, and_true, true_and, and_false, false_and, true_or, or_true, false_or, or_false, not_true_eq_false, if_false, if_true] at hok ⊢
/-- what the two calls leave alone -/
theorem stk_ne (m : Mm) (n : Nat) (x y k h v w : Int32) (q i : Nat) (h1 : q ≠ 9 + 2 * n) (h2 : q ≠ 10 + 2 * n) (h3 : q < 227 ∨ 233 < q ∨ i ≠ n) (h4 : q = 240 → i < 16 * n) (h5 : q = 2 → i ≠ 6) (h6 : q = 225 → i ≠ 2) : gI (stkM (stkC m n x y k h v w) n x y k h v w) q i = gI m q i := by
  unfold stkM stkC
  rw [gI_sI, if_neg (by omega), gI_fil, if_neg (by omega)]
  simp only [gI_sI]
  rw [if_neg (by omega), if_neg (by omega), if_neg (by omega), if_neg (by omega), if_neg (by omega), if_neg (by omega), if_neg (by omega), if_neg (by omega), gI_fil, if_neg (by omega)]
  simp only [gI_sI]
  rw [if_neg (by omega), if_neg (by omega), if_neg (by omega), if_neg (by omega), if_neg (by omega), if_neg (by omega), if_neg (by omega), if_neg (by omega)]
theorem stk_S (m : Mm) {n : Nat} (hn : n < 12) (x y k h v w : Int32) (i : Nat) : gI (stkM (stkC m n x y k h v w) n x y k h v w) (9 + 2 * n) i = if i = 7 then 1 else if i = 6 then 0 else if i = 5 then w else if i = 4 then v else if i = 3 then h else if i = 2 then k else if i = 1 then y else if i = 0 then x else gI m (9 + 2 * n) i := by
  unfold stkM stkC
  rw [gI_sI, if_neg (by omega), gI_fil, if_neg (by omega)]
  simp only [gI_sI]
  rw [if_neg (by omega), if_neg (by omega), if_neg (by omega), if_neg (by omega), if_neg (by omega), if_neg (by omega), if_neg (by omega), if_neg (by omega), gI_fil, if_neg (by omega)]
  simp only [gI_sI, true_and]
theorem stk_E (m : Mm) {n : Nat} (hn : n < 12) (x y k h v w : Int32) (i : Nat) (hi : i < 16) : gI (stkM (stkC m n x y k h v w) n x y k h v w) (10 + 2 * n) i = 0 := by
  unfold stkM stkC
  rw [gI_sI, if_neg (by omega), gI_fil, if_neg (by omega)]
  simp only [gI_sI]
  rw [if_neg (by omega), if_neg (by omega), if_neg (by omega), if_neg (by omega), if_neg (by omega), if_neg (by omega), if_neg (by omega), if_neg (by omega), gI_fil, if_pos ⟨rfl, by omega, by omega⟩]
  rfl
theorem stk_R (m : Mm) {n : Nat} (hn : n < 12) (x y k h v w : Int32) : eS (fun i => gI (stkM (stkC m n x y k h v w) n x y k h v w) (9 + 2 * n) i) (rws (stkM (stkC m n x y k h v w) n x y k h v w) 227) n := by
  have e : ∀ f, f ≤ 6 → rws (stkM (stkC m n x y k h v w) n x y k h v w) 227 f n = if f = 6 then 1 else if f = 5 then 0 else if f = 4 then w else if f = 3 then v else if f = 2 then h else if f = 1 then k else 10 * y + x := fun f hf => by
    unfold rws stkM
    rw [gI_sI, if_neg (by omega), gI_fil, if_neg (by omega)]
    simp only [gI_sI]
    have : f = 0 ∨ f = 1 ∨ f = 2 ∨ f = 3 ∨ f = 4 ∨ f = 5 ∨ f = 6 := by omega
    rcases this with rfl | rfl | rfl | rfl | rfl | rfl | rfl <;> rfl
  unfold eS
  simp only [e 0 (by omega), e 1 (by omega), e 2 (by omega), e 3 (by omega), e 4 (by omega), e 5 (by omega), e 6 (by omega), stk_S m hn]
  exact ⟨rfl, rfl, rfl, rfl, rfl, rfl, rfl⟩
theorem stk_Z (m : Mm) {n : Nat} (hn : n < 12) (x y k h v w : Int32) (i : Nat) (hi : i < 16) : gI (stkM (stkC m n x y k h v w) n x y k h v w) 240 (16 * n + i) = 0 := by
  unfold stkM
  rw [gI_sI, if_neg (by omega), gI_fil, if_pos ⟨rfl, by omega, by omega⟩]
  rfl
theorem Rel_stack {m : Mm} (hR : Rel m) {n c : Nat} (hs : RMs m 2 (cnum m) n c) (hb : RMb m 2 227 0 n c) (hn : n < 12) {x y k h v w : Int32} (hok : okS x y k h v w) : Rel (stkM (stkC m n x y k h v w) n x y k h v w) := by
  have hc : c ≤ 16 := hs.1.2
  generalize hm : stkM (stkC m n x y k h v w) n x y k h v w = m'
  have hne : ∀ q i, q ≠ 9 + 2 * n → q ≠ 10 + 2 * n → (q < 227 ∨ 233 < q ∨ i ≠ n) → (q = 240 → i < 16 * n) → (q = 2 → i ≠ 6) → (q = 225 → i ≠ 2) → gI m' q i = gI m q i := fun q i a b c d e f => by rw [← hm]; exact stk_ne m n x y k h v w q i a b c d e f
  have hSt := stk_S m hn x y k h v w
  rw [hm] at hSt
  have hEt : ∀ i, i < 16 → gI m' (10 + 2 * n) i = 0 := fun i hi => by rw [← hm]; exact stk_E m hn x y k h v w i hi
  have hRt : eS (fun i => gI m' (9 + 2 * n) i) (rws m' 227) n := by rw [← hm]; exact stk_R m hn x y k h v w
  have hZt : ∀ i, i < 16 → gI m' 240 (16 * n + i) = 0 := fun i hi => by rw [← hm]; exact stk_Z m hn x y k h v w i hi
  have h6 : gI m' 2 6 = nI (n + 1) := by
    rw [← hm]
    unfold stkM stkC
    rw [gI_sI, if_neg (by omega), gI_fil, if_neg (by omega)]
    simp only [gI_sI]
    rw [if_neg (by omega), if_neg (by omega), if_neg (by omega), if_neg (by omega), if_neg (by omega), if_neg (by omega), if_neg (by omega), if_pos (by simp)]
  have h2 : gI m' 225 2 = nI (n + 1) := by
    rw [← hm]
    unfold stkM
    rw [gI_sI, if_pos ⟨rfl, rfl⟩]
  obtain ⟨⟨q1, q1'⟩, q2, q3, q4, q5⟩ := hok
  obtain ⟨x, hx, rfl⟩ := rng_in (N := 9) (by decide) q1
  obtain ⟨y, hy, rfl⟩ := rng_in (N := 9) (by decide) q1'
  obtain ⟨k, hk, rfl⟩ := rng_in (N := 4) (by decide) q2
  obtain ⟨h, hh, rfl⟩ := rng_in (N := 999) (by decide) q3
  obtain ⟨v, hv, rfl⟩ := rng_in (N := 99) (by decide) q4
  obtain ⟨w, hw, rfl⟩ := rng_in (N := 99) (by decide) q5
  obtain ⟨b1, b2, b3, b4, b5⟩ := hb
  refine Rel_now hR (hm ▸ hR.1) ⟨hm ▸ rfl, hm ▸ rfl⟩ (fun q i hK => ?_) ⟨n + 1, c, ?_, fun s hs => ?_, ?_, fun i hi => ?_, fun j hj => ?_, fun s hs => ?_⟩
  · unfold Kp at hK
    exact hne q i (by omega) (by omega) (by omega) (by omega) (by omega) (by omega)
  · obtain ⟨s1, s2, s3, s4, s5, s6, s7, s8⟩ := hs
    have e2 : ∀ i, i ≠ 6 → gI m' 2 i = gI m 2 i := fun i hi => hne 2 i (by omega) (by omega) (by omega) (by omega) (fun _ => hi) (by omega)
    have e225 : ∀ i, i ≠ 2 → gI m' 225 i = gI m 225 i := fun i hi => hne 225 i (by omega) (by omega) (by omega) (by omega) (by omega) (fun _ => hi)
    have c1 : cnum m' 1 = cnum m 1 := e225 3 (by omega)
    have c2 : cnum m' 2 = cnum m 2 := e225 4 (by omega)
    have c3 : cnum m' 3 = cnum m 3 := e225 6 (by omega)
    have c4 : cnum m' 4 = cnum m 4 := e225 7 (by omega)
    have c5 : cnum m' 5 = cnum m 5 := e225 5 (by omega)
    refine ⟨⟨by omega, hc⟩, ⟨h6, h2⟩, ⟨(e2 7 (by omega)).trans s3.1, c1.trans s3.2⟩, ?_, ?_, ?_, ?_, ?_⟩
    · rw [e2 10 (by omega), c2]; exact s4
    · rw [e2 8 (by omega), c3]; exact s5
    · rw [e2 9 (by omega), c3, c4]
      rcases s6 with a | ⟨a, t, b, d⟩
      · exact .inl a
      · exact .inr ⟨a, t, by omega, d⟩
    · rw [e2 11 (by omega), c5]; exact s7
    · rw [c5]; exact s8
  · by_cases q : s = n
    · subst q
      refine ⟨?_, ?_⟩
      · have := hSt
        simp only [WfS, show 2 + 7 + 2 * s = 9 + 2 * s by omega, this]
        exact ⟨⟨x, hx, rfl⟩, ⟨y, hy, rfl⟩, ⟨k, hk, rfl⟩, ⟨h, by omega, rfl⟩, ⟨v, hv, rfl⟩, ⟨w, hw, rfl⟩, ⟨0, by omega, rfl, fun _ => by omega⟩, .inr rfl⟩
      · have := hRt
        rw [show 2 + 7 + 2 * s = 9 + 2 * s by omega, Nat.mul_zero, Nat.zero_add]
        exact this
    · have := b1 s (by omega)
      have e : ∀ i, gI m' (2 + 7 + 2 * s) i = gI m (2 + 7 + 2 * s) i := fun i => hne _ _ (by omega) (by omega) (by omega) (by omega) (by omega) (by omega)
      have e7 : ∀ f, f ≤ 6 → gI m' (227 + f) (12 * 0 + s) = gI m (227 + f) (12 * 0 + s) := fun f hf => hne _ _ (by omega) (by omega) (by omega) (by omega) (by omega) (by omega)
      have e0 : gI m' 227 (12 * 0 + s) = gI m 227 (12 * 0 + s) := e7 0 (by omega)
      simp only [WfS, EqS] at this ⊢
      simp only [e, e0, e7 1 (by omega), e7 2 (by omega), e7 3 (by omega), e7 4 (by omega), e7 5 (by omega), e7 6 (by omega)]
      exact this
  · unfold hsum
    rw [hsum_congr (g := fun s => gI m (2 + 7 + 2 * s) 3) (fun s q => hne _ _ (by omega) (by omega) (by omega) (by omega) (by omega) (by omega))]
    have : gI m' (2 + 7 + 2 * n) 3 = nI h := by
      rw [show 2 + 7 + 2 * n = 9 + 2 * n by omega, hSt]
      rfl
    rw [this, nI_clamp (by omega)]
    omega
  · have := b3 i hi
    have e : ∀ k, gI m' (2 + 31 + 2 * i) k = gI m (2 + 31 + 2 * i) k := fun k => hne _ _ (by omega) (by omega) (by omega) (by omega) (by omega) (by omega)
    have e' : ∀ k, gI m' (2 + 31 + 2 * i + 1) k = gI m (2 + 31 + 2 * i + 1) k := fun k => hne _ _ (by omega) (by omega) (by omega) (by omega) (by omega) (by omega)
    have e7 : ∀ f, 7 ≤ f → f ≤ 11 → ∀ j, gI m' (227 + f) j = gI m (227 + f) j := fun f hf hg j => hne _ _ (by omega) (by omega) (by omega) (by omega) (by omega) (by omega)
    simp only [WfC, EqC] at this ⊢
    simp only [e, e', e7 7 (by omega) (by omega), e7 8 (by omega) (by omega), e7 9 (by omega) (by omega), e7 10 (by omega) (by omega), e7 11 (by omega) (by omega)]
    exact this
  · rw [hne (227 + 12) _ (by omega) (by omega) (by omega) (by omega) (by omega) (by omega), hne (2 + 3) _ (by omega) (by omega) (by omega) (by omega) (by omega) (by omega)]
    exact b4 j hj
  · by_cases q : s = n
    · subst q
      refine ⟨fun i hi => ?_, fun i h1 h2 => ?_⟩
      · rw [show 2 + 8 + 2 * s = 10 + 2 * s by omega, hEt i (by omega), Nat.mul_zero, Nat.zero_add]
        exact hZt i (by omega)
      · rw [show 2 + 8 + 2 * s = 10 + 2 * s by omega, hEt i (by omega)]
    · have e : ∀ k, gI m' (2 + 8 + 2 * s) k = gI m (2 + 8 + 2 * s) k := fun k => hne _ _ (by omega) (by omega) (by omega) (by omega) (by omega) (by omega)
      refine ⟨fun i hi => ?_, fun i h1 h2 => ?_⟩
      · rw [e, hne (227 + 13) _ (by omega) (by omega) (by omega) (by omega) (by omega) (by omega)]
        exact (b5 s (by omega)).1 i hi
      · rw [e]
        exact (b5 s (by omega)).2 i h1 h2
theorem p_stack : Pr_stack Rel := fun x y k h v w => PrI_ex (fun m hR => by
  obtain ⟨n, c, hs, hb⟩ := hR.2.2.1
  have hn := hs.1.1
  have h6 : gI m 2 6 = nI n := hs.2.1.1
  have h2 : gI m 225 2 = nI n := hs.2.1.2
  by_cases hok : okS x y k h v w ∧ n < 12
  · obtain ⟨hok, hn⟩ := hok
    have hC := e_stack hR.1 hn h6 hok
    have hEq : ∀ m', (∀ s, s < n → gI m' 233 s = gI m 233 s ∧ gI m' 227 s = gI m 227 s) → exI (fun s => ¬ gI m' 233 s = 0 ∧ gI m' 227 s = 10 * y + x) 0 n = exI (fun s => ¬ gI m (9 + 2 * s) 7 = 0 ∧ gI m (9 + 2 * s) 0 = x ∧ gI m (9 + 2 * s) 1 = y) 0 n := fun m' hm' => by
      refine exI_congr n 0 (fun s _ hsn => ?_)
      obtain ⟨⟨⟨a, ha, ea⟩, ⟨b, hb', eb⟩, -⟩, e0, -, -, -, -, -, e6⟩ := hb.1 s (by omega)
      rw [Nat.mul_zero, Nat.zero_add] at e0 e6
      have e6 : gI m 233 s = gI m (9 + 2 * s) 7 := e6
      have e0 : gI m 227 s = 10 * gI m (9 + 2 * s) 1 + gI m (9 + 2 * s) 0 := e0
      have ea : gI m (9 + 2 * s) 0 = nI a := ea
      have eb : gI m (9 + 2 * s) 1 = nI b := eb
      obtain ⟨x', hx, rfl⟩ := rng_in (N := 9) (by decide) hok.1.1
      obtain ⟨y', hy, rfl⟩ := rng_in (N := 9) (by decide) hok.1.2
      rw [(hm' s (by omega)).1, (hm' s (by omega)).2, e6, e0, ea, eb, (show (10 : Int32) * nI (b) = nI (10 * b) by rw [show (10 : Int32) = nI 10 from rfl, pk_mul]), (show (10 : Int32) * nI (y') = nI (10 * y') by rw [show (10 : Int32) = nI 10 from rfl, pk_mul]), nI_add, nI_add, nI_eq (by omega) (by omega), nI_eq (by omega) (by omega), nI_eq (by omega) (by omega)]
      constructor
      · rintro ⟨a1, a2⟩; exact ⟨a1, by omega, by omega⟩
      · rintro ⟨a1, a2, a3⟩; exact ⟨a1, by omega⟩
    by_cases q : exI (fun s => ¬ gI m (9 + 2 * s) 7 = 0 ∧ gI m (9 + 2 * s) 0 = x ∧ gI m (9 + 2 * s) 1 = y) 0 n = 0
    · refine ⟨nI n, stkC m n x y k h v w, stkM (stkC m n x y k h v w) n x y k h v w, fun o => by rw [hC, if_pos q], hR.1, fun o => ?_, Rel_stack hR hs hb hn hok⟩
      have hc : ∀ q i, 225 ≤ q → gI (stkC m n x y k h v w) q i = gI m q i := fun q i hq => by
        unfold stkC
        rw [gI_sI, if_neg (by omega), gI_fil, if_neg (by omega)]
        simp only [gI_sI]
        rw [if_neg (by omega), if_neg (by omega), if_neg (by omega), if_neg (by omega), if_neg (by omega), if_neg (by omega), if_neg (by omega), if_neg (by omega)]
      rw [e_stackM (m := stkC m n x y k h v w) hR.1 hn ((hc 225 2 (by omega)).trans h2) hok, hEq (stkC m n x y k h v w) (fun s hs => ⟨hc 233 s (by omega), hc 227 s (by omega)⟩), if_pos q]
    · refine ⟨-2, m, m, fun o => by rw [hC, if_neg q], hR.1, fun o => ?_, hR⟩
      rw [e_stackM hR.1 hn h2 hok, hEq m (fun s hs => ⟨rfl, rfl⟩), if_neg q]
  · exact ⟨-1, m, m, fun o => e_stack0 hR.1 hn h6 hok o, hR.1, fun o => e_stackM0 hR.1 hn h2 hok o, hR⟩)

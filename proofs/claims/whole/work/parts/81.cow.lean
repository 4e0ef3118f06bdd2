/-! ===== cow ===== -/
/-- the c-th of the first k sixteens of place q are 0 -/
def filS (m : Mm) (q c k : Nat) : Mm := uI m (fun x i => if x = q ∧ i % 16 = c ∧ i / 16 < k then 0 else gI m x i)
theorem gI_filS (m : Mm) (q c k x i : Nat) : gI (filS m q c k) x i = if x = q ∧ i % 16 = c ∧ i / 16 < k then 0 else gI m x i := rfl
theorem filS_0 (m : Mm) (q c : Nat) : filS m q c 0 = m := by
  unfold filS
  rw [← uI_self m, uI_uI]
  refine uI_ext (fun x i => ?_)
  rw [if_neg (by omega)]
  rfl
theorem filS_1 (m : Mm) (q : Nat) {c : Nat} (hc : c < 16) (k : Nat) : sI (filS m q c k) q (16 * k + c) 0 = filS m q c (k + 1) := by
  unfold filS
  rw [sI_uI]
  refine uI_ext (fun x i => ?_)
  by_cases h : x = q ∧ i = 16 * k + c
  · rw [if_pos h, if_pos ⟨h.1, by omega, by omega⟩]
  · rw [if_neg h]
    by_cases h2 : x = q ∧ i % 16 = c ∧ i / 16 < k
    · rw [if_pos h2, if_pos ⟨h2.1, h2.2.1, by omega⟩]
    · rw [if_neg h2, if_neg (by omega)]
theorem l_enter {m : Mm} (h : Sh m) {n : Nat} (hn : n < 16) : ∀ (k N i : Nat) (o : Prop), i + k = 5 → k < N → f_X1_enter_30 N (33 + 2 * n) (nI i) (fil m (34 + 2 * n) 0 i d0) o = ((), fil m (34 + 2 * n) 0 5 d0, o) := by
  obtain ⟨r1, r2, r3, r4, r5⟩ := md_cow h (p := 2) (.inl rfl) hn
  have r2 : ∀ i, gT (fil m (34 + 2 * n) 0 i d0) (33 + 2 * n) = 2 := fun i => r2
  have r3 : ∀ i, gR (fil m (34 + 2 * n) 0 i d0) (33 + 2 * n) 5 = 34 + 2 * n := fun i => r3
  have r4 : ∀ i, gT (fil m (34 + 2 * n) 0 i d0) (34 + 2 * n) = 20 := fun i => r4
  have r5 : ∀ i, gN (fil m (34 + 2 * n) 0 i d0) (34 + 2 * n) = 5 := fun i => r5
  have n1 : ¬ 34 + 2 * n = 0 := by omega
  intro k
  induction k with
  | zero =>
    intro N i o hi hN
    obtain ⟨N, rfl⟩ : ∃ N1, N = N1 + 1 := ⟨N - 1, by omega⟩
    show f_X1_enter_30b (f_X1_enter_30 N) (33 + 2 * n) (nI i) _ o = _
    obtain rfl : i = 5 := by omega
    unfold f_X1_enter_30b
    rw [if_pos (by decide)]
  | succ k ih =>
    intro N i o hi hN
    obtain ⟨N, rfl⟩ : ∃ N1, N = N1 + 1 := ⟨N - 1, by omega⟩
    have hin : vp_in (nI i) 5 := vp_in_nI (by omega) (by omega)
    show f_X1_enter_30b (f_X1_enter_30 N) (33 + 2 * n) (nI i) _ o = _
    unfold f_X1_enter_30b f_X1_enter_44
    rw [if_neg (show ¬ (5 : Int32) ≤ nI (i) from nI_ge (a := i) (b := 5) (by omega) (by omega))]
    have hs := fil_1 m (34 + 2 * n) 0 i d0
    rw [Nat.zero_add, show d0 i = 0 from rfl] at hs
    simp (config := {decide := true}) only [ix_nI (show i < 2 ^ 31 by omega), r2, r3, r4, r5, n1, hin, ne_eq, not_false_eq_true, and_self, and_true, true_and, and_false, false_and, true_or, or_true, false_or, or_false, not_true_eq_false, if_false, if_true, hs, nI_1, ih N (i + 1) _ (show i + 1 + k = 5 by omega) (show k < N by omega)]
def cowC (m : Mm) (n : Nat) (x y b u : Int32) : Mm := sI (fil (sI (sI (sI (sI (sI m (33 + 2 * n) 0 x) (33 + 2 * n) 1 y) (33 + 2 * n) 2 b) (33 + 2 * n) 3 u) (33 + 2 * n) 4 (-2)) (34 + 2 * n) 0 5 d0) 2 7 (nI (n + 1))
def okC (x y u : Int32) : Prop := ((0 ≤ x ∧ x ≤ 9) ∧ (0 ≤ y ∧ y ≤ 9)) ∧ (1 ≤ u ∧ u ≤ 9)
def bul (b : Int32) : Int32 := if b = 0 then 1 else 9
theorem e_cow {m : Mm} (hS : Sh m) {n : Nat} (hn : n < 16) (h7 : gI m 2 7 = nI n) {x y b u : Int32} (hok : okC x y u) (o : Prop) : F_X11_cow 1 x y b u m o = (nI n, cowC m n x y (bul b) u, o) := by
  obtain ⟨q1, q2⟩ := hok
  obtain ⟨r1, r2, -⟩ := md_cow hS (p := 2) (.inl rfl) hn
  have r1 : gR m 4 n = 33 + 2 * n := r1
  have r2 : gT m (33 + 2 * n) = 2 := r2
  have n1 : ¬ 33 + 2 * n = 0 := by omega
  have hin : vp_in (nI n) 16 := vp_in_nI (by omega) (by omega)
  have h16 : (nI n < (16 : Int32)) = True := eq_true (nI_lt (a := n) (b := 16) hn (by omega))
  have hr : ∀ b o, F_X1_enter (33 + 2 * n) x y b u m o = ((), fil (sI (sI (sI (sI (sI m (33 + 2 * n) 0 x) (33 + 2 * n) 1 y) (33 + 2 * n) 2 b) (33 + 2 * n) 3 u) (33 + 2 * n) 4 (-2)) (34 + 2 * n) 0 5 d0, o) := fun b o => by
    have hl2 := l_enter (m := sI (sI (sI (sI (sI m (33 + 2 * n) 0 x) (33 + 2 * n) 1 y) (33 + 2 * n) 2 b) (33 + 2 * n) 3 u) (33 + 2 * n) 4 (-2)) hS hn 5 1000 0 o (by omega) (by omega)
    rw [fil_0, nI_0] at hl2
    simp (config := {decide := true}) only [f_X1_enter_44, f_X1_enter_27, f_X1_enter_21, f_X1_enter_15, f_X1_enter_10, f_X1_enter_5, f_X1_enter_0, F_X1_enter, gT_sI, r2, ne_eq, not_false_eq_true, and_self, and_true, true_and, and_false, false_and, true_or, or_true, false_or, or_false, not_true_eq_false, if_false, if_true, hl2]
  have h7' : ∀ b, gI (fil (sI (sI (sI (sI (sI m (33 + 2 * n) 0 x) (33 + 2 * n) 1 y) (33 + 2 * n) 2 b) (33 + 2 * n) 3 u) (33 + 2 * n) 4 (-2)) (34 + 2 * n) 0 5 d0) 2 7 = nI n := fun b => by
    rw [gI_fil, if_neg (by omega)]
    simp only [gI_sI]
    rw [if_neg (by omega), if_neg (by omega), if_neg (by omega), if_neg (by omega), if_neg (by omega)]
    exact h7
  unfold bul cowC
  simp (config := {decide := true}) only [f_X11_cow_31, f_X11_cow_82, f_X11_cow_69, f_X11_cow_64, f_X11_cow_16, f_X11_cow_5, f_X11_cow_0, F_X11_cow, bnd, e_isSquare, e_isWithin, bI_0, q1, q2, h7, h16, hr, h7', gT_fil, gR_fil, gR_sI, gT_sI, shT_1 hS, shR_1_0 hS, shT_2 hS, shR_2_1 hS, shT_4 hS, shN_4 hS, ix_nI (show n < 2 ^ 31 by omega), r1, r2, n1, hin, nI_1, ne_eq, not_false_eq_true, and_self, and_true, true_and, and_false, false_and, true_or, or_true, false_or, or_false, not_true_eq_false, if_false, if_true]
  by_cases q : b = 0
  · simp only [q, if_true]
  · simp only [q, if_false]
theorem e_cow0 {m : Mm} (hS : Sh m) {n : Nat} (hn : n ≤ 16) (h7 : gI m 2 7 = nI n) {x y b u : Int32} (hok : ¬ (okC x y u ∧ n < 16)) (o : Prop) : F_X11_cow 1 x y b u m o = (-1, m, o) := by
  unfold okC at hok
  have h12 : (nI n < (16 : Int32)) = (n < 16) := propext (nI_ltI (a := n) (b := 16) (by omega) (by omega))
  simp (config := {decide := true}) only [f_X11_cow_31, f_X11_cow_82, f_X11_cow_69, f_X11_cow_64, f_X11_cow_16, f_X11_cow_5, f_X11_cow_0, F_X11_cow, bnd, e_isSquare, e_isWithin, bI_0, h7, h12, shT_1 hS, shR_1_0 hS, shT_2 hS, ne_eq, not_false_eq_true, and_self, and_true, true_and, and_false, false_and, true_or, or_true, false_or, or_false, not_true_eq_false, if_false, if_true]
  rcases Classical.propComplete ((0 ≤ x ∧ x ≤ 9) ∧ (0 ≤ y ∧ y ≤ 9)) with q1 | q1 <;> rcases Classical.propComplete (1 ≤ u ∧ u ≤ 9) with q2 | q2 <;> rcases Classical.propComplete (n < 16) with q6 | q6 <;> simp (config := {decide := true}) only [q1, q2, q6, ne_eq, not_false_eq_true, and_self, and_true, true_and, and_false, false_and, true_or, or_true, false_or, or_false, not_true_eq_false, if_false, if_true] at hok ⊢
theorem l_cowT {m : Mm} (h : Sh m) {n : Nat} (hn : n < 16) (h3 : gI m 225 3 = nI n) (r : Mm → Prop → Int32 × Mm × Prop) (hr : ∀ m' o, f_X12_cow_127 1000 225 0 m' o = r m' o) : ∀ (k N i : Nat) (o : Prop), i + k = 5 → k < N → f_X12_cow_97 N 225 (nI i) (fil m 238 (5 * n) i d0) o = r (fil m 238 (5 * n) 5 d0) o := by
  have h3' : ∀ i, gI (fil m 238 (5 * n) i d0) 225 3 = nI n := fun i => by rw [gI_fil, if_neg (by omega)]; exact h3
  intro k
  induction k with
  | zero =>
    intro N i o hi hN
    obtain ⟨N, rfl⟩ : ∃ N1, N = N1 + 1 := ⟨N - 1, by omega⟩
    show f_X12_cow_97b (f_X12_cow_97 N) 225 (nI i) _ o = _
    obtain rfl : i = 5 := by omega
    unfold f_X12_cow_97b
    rw [if_pos (by decide), hr]
  | succ k ih =>
    intro N i o hi hN
    obtain ⟨N, rfl⟩ : ∃ N1, N = N1 + 1 := ⟨N - 1, by omega⟩
    have h' : Sh (fil m 238 (5 * n) i d0) := h
    have hin : vp_in (nI (5 * n + i)) 80 := vp_in_nI (by omega) (by omega)
    show f_X12_cow_97b (f_X12_cow_97 N) 225 (nI i) _ o = _
    unfold f_X12_cow_97b f_X12_cow_118
    rw [if_neg (show ¬ (5 : Int32) ≤ nI (i) from nI_ge (a := i) (b := 5) (by omega) (by omega))]
    have hs := fil_1 m 238 (5 * n) i d0
    rw [show d0 i = 0 from rfl] at hs
    simp (config := {decide := true}) only [h3', (show (5 : Int32) * nI (n) = nI (5 * n) by rw [show (5 : Int32) = nI 5 from rfl, pk_mul]), nI_add, ix_nI (show 5 * n + i < 2 ^ 31 by omega), shT_225 h', shR_225_19 h', shT_238 h', shN_238 h', hin, ne_eq, not_false_eq_true, and_self, and_true, true_and, and_false, false_and, true_or, or_true, false_or, or_false, not_true_eq_false, if_false, if_true, hs, nI_1, ih N (i + 1) _ (show i + 1 + k = 5 by omega) (show k < N by omega)]
theorem l_cowE {m : Mm} (h : Sh m) {n : Nat} (hn : n < 16) (h3 : gI m 225 3 = nI n) : ∀ (k N i : Nat) (o : Prop), i + k = 12 → k < N → f_X12_cow_127 N 225 (nI i) (filS m 240 n i) o = (nI n, sI (filS m 240 n 12) 225 3 (nI (n + 1)), o) := by
  have h3' : ∀ i, gI (filS m 240 n i) 225 3 = nI n := fun i => by rw [gI_filS, if_neg (by omega)]; exact h3
  intro k
  induction k with
  | zero =>
    intro N i o hi hN
    obtain ⟨N, rfl⟩ : ∃ N1, N = N1 + 1 := ⟨N - 1, by omega⟩
    show f_X12_cow_127b (f_X12_cow_127 N) 225 (nI i) _ o = _
    obtain rfl : i = 12 := by omega
    have h' : Sh (filS m 240 n 12) := h
    unfold f_X12_cow_127b f_X12_cow_166
    rw [if_pos (by decide)]
    simp (config := {decide := true}) only [h3', gI_sI, gT_sI, shT_225 h', nI_1, nI_pred, ne_eq, not_false_eq_true, and_self, and_true, true_and, and_false, false_and, true_or, or_true, false_or, or_false, not_true_eq_false, if_false, if_true]
  | succ k ih =>
    intro N i o hi hN
    obtain ⟨N, rfl⟩ : ∃ N1, N = N1 + 1 := ⟨N - 1, by omega⟩
    have h' : Sh (filS m 240 n i) := h
    have hin : vp_in (nI (16 * i + n)) 192 := vp_in_nI (by omega) (by omega)
    show f_X12_cow_127b (f_X12_cow_127 N) 225 (nI i) _ o = _
    unfold f_X12_cow_127b f_X12_cow_150
    rw [if_neg (show ¬ (12 : Int32) ≤ nI (i) from nI_ge (a := i) (b := 12) (by omega) (by omega))]
    have hs := filS_1 m 240 hn i
    simp (config := {decide := true}) only [h3', (show (16 : Int32) * nI (i) = nI (16 * i) by rw [show (16 : Int32) = nI 16 from rfl, pk_mul]), nI_add, ix_nI (show 16 * i + n < 2 ^ 31 by omega), shT_225 h', shR_225_21 h', shT_240 h', shN_240 h', hin, ne_eq, not_false_eq_true, and_self, and_true, true_and, and_false, false_and, true_or, or_true, false_or, or_false, not_true_eq_false, if_false, if_true, hs, nI_1, ih N (i + 1) _ (show i + 1 + k = 12 by omega) (show k < N by omega)]
def cowM (m : Mm) (n : Nat) (x y b u : Int32) : Mm := sI (filS (fil (sI (sI (sI (sI m 234 n (10 * y + x)) 235 n b) 236 n u) 237 n (-2)) 238 (5 * n) 5 d0) 240 n 12) 225 3 (nI (n + 1))
theorem e_cowM {m : Mm} (hS : Sh m) {n : Nat} (hn : n < 16) (h3 : gI m 225 3 = nI n) {x y b u : Int32} (hok : okC x y u) (o : Prop) : F_X12_cow 225 x y b u m o = (nI n, cowM m n x y (bul b) u, o) := by
  obtain ⟨⟨q1, q1'⟩, q2⟩ := hok
  have hin : vp_in (nI n) 16 := vp_in_nI (by omega) (by omega)
  have hb := e_lies u 1 9
  rw [show Int32.toInt64 1 = 1 by decide, show Int32.toInt64 9 = 9 by decide] at hb
  have h12 : (nI n = (16 : Int32)) = False := eq_false (fun z => by have := (nI_eq (a := n) (b := 16) (by omega) (by omega)).mp z; omega)
  have hz : ∀ b o, f_X12_cow_97 1000 225 0 (sI (sI (sI (sI m 234 n (10 * y + x)) 235 n b) 236 n u) 237 n (-2)) o = (nI n, cowM m n x y b u, o) := fun b o => by
    have h3' : gI (sI (sI (sI (sI m 234 n (10 * y + x)) 235 n b) 236 n u) 237 n (-2)) 225 3 = nI n := by
      simp only [gI_sI]
      rw [if_neg (by omega), if_neg (by omega), if_neg (by omega), if_neg (by omega)]
      exact h3
    have hl := l_cowT (m := sI (sI (sI (sI m 234 n (10 * y + x)) 235 n b) 236 n u) 237 n (-2)) hS hn h3' _ (fun _ _ => rfl) 5 1000 0 o (by omega) (by omega)
    have hl2 := l_cowE (m := fil (sI (sI (sI (sI m 234 n (10 * y + x)) 235 n b) 236 n u) 237 n (-2)) 238 (5 * n) 5 d0) hS hn (by rw [gI_fil, if_neg (by omega)]; exact h3') 12 1000 0 o (by omega) (by omega)
    rw [filS_0, nI_0] at hl2
    rw [fil_0, nI_0, hl2] at hl
    exact hl
  unfold bul
  simp (config := {decide := true}) only [f_X12_cow_36, f_X12_cow_118, f_X12_cow_150, f_X12_cow_166, f_X12_cow_94, f_X12_cow_83, f_X12_cow_72, f_X12_cow_71, f_X12_cow_53, f_X12_cow_24, f_X12_cow_11, f_X12_cow_4, f_X12_cow_0, F_X12_cow, bnd, e_isSideM, hb, bI_0, q1, q1', q2, h3, h12, gI_sI, gT_sI, gN_sI, gR_sI, ix_nI (show n < 2 ^ 31 by omega), hin, shT_225 hS, shR_225_15 hS, shR_225_16 hS, shR_225_17 hS, shR_225_18 hS, shT_234 hS, shN_234 hS, shT_235 hS, shN_235 hS, shT_236 hS, shN_236 hS, shT_237 hS, shN_237 hS, ne_eq, not_false_eq_true, and_self, and_true, true_and, and_false, false_and, true_or, or_true, false_or, or_false, not_true_eq_false, if_false, if_true, hz]
  by_cases q : b = 0
  · simp only [q, if_true]
  · simp only [q, if_false]
theorem e_cowM0 {m : Mm} (hS : Sh m) {n : Nat} (hn : n ≤ 16) (h3 : gI m 225 3 = nI n) {x y b u : Int32} (hok : ¬ (okC x y u ∧ n < 16)) (o : Prop) : F_X12_cow 225 x y b u m o = (-1, m, o) := by
  unfold okC at hok
  have hb := e_lies u 1 9
  rw [show Int32.toInt64 1 = 1 by decide, show Int32.toInt64 9 = 9 by decide] at hb
  have h12 : (nI n = (16 : Int32)) = (n = 16) := propext (nI_eq (a := n) (b := 16) (by omega) (by omega))
  have h13 : (n < 16) = ¬ (n = 16) := propext ⟨fun _ => by omega, fun _ => by omega⟩
  rw [h13] at hok
  simp (config := {decide := true}) only [f_X12_cow_36, f_X12_cow_118, f_X12_cow_150, f_X12_cow_166, f_X12_cow_94, f_X12_cow_83, f_X12_cow_72, f_X12_cow_71, f_X12_cow_53, f_X12_cow_24, f_X12_cow_11, f_X12_cow_4, f_X12_cow_0, F_X12_cow, bnd, e_isSideM, hb, bI_0, h3, h12, shT_225 hS, ne_eq, not_false_eq_true, and_self, and_true, true_and, and_false, false_and, true_or, or_true, false_or, or_false, not_true_eq_false, if_false, if_true]
  rcases Classical.propComplete (0 ≤ x ∧ x ≤ 9) with q1 | q1 <;> rcases Classical.propComplete (0 ≤ y ∧ y ≤ 9) with q0 | q0 <;> rcases Classical.propComplete (1 ≤ u ∧ u ≤ 9) with q2 | q2 <;> rcases Classical.propComplete (n = 16) with q6 | q6 <;> simp (config := {decide := true}) only [q0, q1, q2, q6, ne_eq, not_false_eq_true, and_self, and_true, true_and, and_false, false_and, true_or, or_true, false_or, or_false, not_true_eq_false, if_false, if_true] at hok ⊢
theorem cowM_ne (m : Mm) (n : Nat) (x y b u : Int32) (q i : Nat) (h1 : q < 234 ∨ 237 < q ∨ i ≠ n) (h2 : q = 238 → i < 5 * n ∨ 5 * n + 5 ≤ i) (h3 : q = 240 → i % 16 ≠ n) (h4 : q = 225 → i ≠ 3) : gI (cowM m n x y b u) q i = gI m q i := by
  unfold cowM
  rw [gI_sI, if_neg (by omega), gI_filS, if_neg (by omega), gI_fil, if_neg (by omega)]
  simp only [gI_sI]
  rw [if_neg (by omega), if_neg (by omega), if_neg (by omega), if_neg (by omega)]
theorem cowC_ne (m : Mm) (n : Nat) (x y b u : Int32) (q i : Nat) (h1 : q ≠ 33 + 2 * n) (h2 : q ≠ 34 + 2 * n) (h3 : q = 2 → i ≠ 7) : gI (cowC m n x y b u) q i = gI m q i := by
  unfold cowC
  rw [gI_sI, if_neg (by omega), gI_fil, if_neg (by omega)]
  simp only [gI_sI]
  rw [if_neg (by omega), if_neg (by omega), if_neg (by omega), if_neg (by omega), if_neg (by omega)]
theorem Rel_cow {m : Mm} (hR : Rel m) {n c : Nat} (hs : RMs m 2 (cnum m) n c) (hb : RMb m 2 227 0 n c) (hc : c < 16) {x y b u : Int32} (hok : okC x y u) (hbb : b = 1 ∨ b = 9) : Rel (cowM (cowC m c x y b u) c x y b u) := by
  have hn : n ≤ 12 := hs.1.1
  have hC : ∀ i, gI (cowM (cowC m c x y b u) c x y b u) (33 + 2 * c) i = if i = 4 then -2 else if i = 3 then u else if i = 2 then b else if i = 1 then y else if i = 0 then x else gI m (33 + 2 * c) i := fun i => by
    rw [cowM_ne _ _ _ _ _ _ _ _ (by omega) (by omega) (by omega) (by omega)]
    unfold cowC
    rw [gI_sI, if_neg (by omega), gI_fil, if_neg (by omega)]
    simp only [gI_sI, true_and]
  have hT : ∀ i, i < 5 → gI (cowM (cowC m c x y b u) c x y b u) (34 + 2 * c) i = 0 := fun i hi => by
    rw [cowM_ne _ _ _ _ _ _ _ _ (by omega) (by omega) (by omega) (by omega)]
    unfold cowC
    rw [gI_sI, if_neg (by omega), gI_fil, if_pos ⟨rfl, by omega, by omega⟩]
    rfl
  have hM : ∀ f, 7 ≤ f → f ≤ 10 → gI (cowM (cowC m c x y b u) c x y b u) (227 + f) c = if f = 10 then -2 else if f = 9 then u else if f = 8 then b else 10 * y + x := fun f hf hg => by
    unfold cowM
    rw [gI_sI, if_neg (by omega), gI_filS, if_neg (by omega), gI_fil, if_neg (by omega)]
    have : f = 7 ∨ f = 8 ∨ f = 9 ∨ f = 10 := by omega
    rcases this with rfl | rfl | rfl | rfl <;> simp [gI_sI]
  have hTM : ∀ j, j < 5 → gI (cowM (cowC m c x y b u) c x y b u) 238 (5 * c + j) = 0 := fun j hj => by
    unfold cowM
    rw [gI_sI, if_neg (by omega), gI_filS, if_neg (by omega), gI_fil, if_pos ⟨rfl, by omega, by omega⟩]
    rfl
  have hZ : ∀ s, s < 12 → gI (cowM (cowC m c x y b u) c x y b u) 240 (16 * s + c) = 0 := fun s hs => by
    unfold cowM
    rw [gI_sI, if_neg (by omega), gI_filS, if_pos ⟨rfl, by omega, by omega⟩]
  have h7 : gI (cowM (cowC m c x y b u) c x y b u) 2 7 = nI (c + 1) := by
    rw [cowM_ne _ _ _ _ _ _ _ _ (by omega) (by omega) (by omega) (by omega)]
    unfold cowC
    rw [gI_sI, if_pos ⟨rfl, rfl⟩]
  have h3 : gI (cowM (cowC m c x y b u) c x y b u) 225 3 = nI (c + 1) := by
    unfold cowM
    rw [gI_sI, if_pos ⟨rfl, rfl⟩]
  have hne : ∀ q i, q ≠ 33 + 2 * c → q ≠ 34 + 2 * c → (q = 2 → i ≠ 7) → (q < 234 ∨ 237 < q ∨ i ≠ c) → (q = 238 → i < 5 * c ∨ 5 * c + 5 ≤ i) → (q = 240 → i % 16 ≠ c) → (q = 225 → i ≠ 3) → gI (cowM (cowC m c x y b u) c x y b u) q i = gI m q i := fun q i a1 a2 a3 a4 a5 a6 a7 => (cowM_ne _ _ _ _ _ _ q i a4 a5 a6 a7).trans (cowC_ne _ _ _ _ _ _ q i a1 a2 a3)
  have hSh : Sh (cowM (cowC m c x y b u) c x y b u) := hR.1
  have hr1 : gR (cowM (cowC m c x y b u) c x y b u) 1 9 = gR m 1 9 := rfl
  have hr2 : gR (cowM (cowC m c x y b u) c x y b u) 1 10 = gR m 1 10 := rfl
  generalize cowM (cowC m c x y b u) c x y b u = m' at *
  obtain ⟨⟨q1, q1'⟩, q2⟩ := hok
  obtain ⟨x, hx, rfl⟩ := rng_in (N := 9) (by decide) q1
  obtain ⟨y, hy, rfl⟩ := rng_in (N := 9) (by decide) q1'
  obtain ⟨u, hu, rfl⟩ := rng_in (N := 9) (by decide) ⟨Int32.le_trans (by decide) q2.1, q2.2⟩
  have hu1 : 1 ≤ u := (nI_leI (a := 1) (b := u) (by omega) (by omega)).mp q2.1
  obtain ⟨b1, b2, b3, b4, b5⟩ := hb
  refine Rel_now hR hSh ⟨hr1, hr2⟩ (fun q i hK => ?_) ⟨n, c + 1, ?_, fun s hs => ?_, ?_, fun i hi => ?_, fun j hj => ?_, fun s hsn => ?_⟩
  · unfold Kp at hK
    exact hne q i (by omega) (by omega) (by omega) (by omega) (by omega) (by omega) (by omega)
  · obtain ⟨s1, s2, s3, s4, s5, s6, s7, s8⟩ := hs
    have e2 : ∀ i, i ≠ 7 → gI m' 2 i = gI m 2 i := fun i hi => hne 2 i (by omega) (by omega) (fun _ => hi) (by omega) (by omega) (by omega) (by omega)
    have e225 : ∀ i, i ≠ 3 → gI m' 225 i = gI m 225 i := fun i hi => hne 225 i (by omega) (by omega) (by omega) (by omega) (by omega) (by omega) (fun _ => hi)
    have c0 : cnum m' 0 = cnum m 0 := e225 2 (by omega)
    have c2 : cnum m' 2 = cnum m 2 := e225 4 (by omega)
    have c3 : cnum m' 3 = cnum m 3 := e225 6 (by omega)
    have c4 : cnum m' 4 = cnum m 4 := e225 7 (by omega)
    have c5 : cnum m' 5 = cnum m 5 := e225 5 (by omega)
    refine ⟨⟨hn, by omega⟩, ⟨(e2 6 (by omega)).trans s2.1, c0.trans s2.2⟩, ⟨h7, h3⟩, ?_, ?_, ?_, ?_, ?_⟩
    · rw [e2 10 (by omega), c2]; exact s4
    · rw [e2 8 (by omega), c3]; exact s5
    · rw [e2 9 (by omega), c3, c4]; exact s6
    · rw [e2 11 (by omega), c5]; exact s7
    · rw [c5]; exact s8
  · have := b1 s hs
    have e : ∀ i, gI m' (2 + 7 + 2 * s) i = gI m (2 + 7 + 2 * s) i := fun i => hne _ _ (by omega) (by omega) (by omega) (by omega) (by omega) (by omega) (by omega)
    have e7 : ∀ f, f ≤ 6 → gI m' (227 + f) (12 * 0 + s) = gI m (227 + f) (12 * 0 + s) := fun f hf => hne _ _ (by omega) (by omega) (by omega) (by omega) (by omega) (by omega) (by omega)
    have e0 : gI m' 227 (12 * 0 + s) = gI m 227 (12 * 0 + s) := e7 0 (by omega)
    simp only [WfS, EqS] at this ⊢
    simp only [e, e0, e7 1 (by omega), e7 2 (by omega), e7 3 (by omega), e7 4 (by omega), e7 5 (by omega), e7 6 (by omega)]
    exact this
  · rw [hsum_congr (g := fun s => gI m (2 + 7 + 2 * s) 3) (fun s q => hne _ _ (by omega) (by omega) (by omega) (by omega) (by omega) (by omega) (by omega))]
    exact b2
  · by_cases q : i = c
    · subst q
      refine ⟨?_, ?_⟩
      · simp only [WfC, show 2 + 31 + 2 * i = 33 + 2 * i by omega, show 33 + 2 * i + 1 = 34 + 2 * i by omega, hC]
        refine ⟨⟨x, hx, rfl⟩, ⟨y, hy, rfl⟩, hbb, ⟨u, hu1, hu, rfl⟩, .inl rfl, fun j hj => ?_⟩
        rw [hT j hj]
        decide
      · simp only [EqC, show 2 + 31 + 2 * i = 33 + 2 * i by omega, show 33 + 2 * i + 1 = 34 + 2 * i by omega, hC, Nat.mul_zero, Nat.zero_add, hM 7 (by omega) (by omega), hM 8 (by omega) (by omega), hM 9 (by omega) (by omega), hM 10 (by omega) (by omega)]
        refine ⟨rfl, rfl, rfl, rfl, fun j hj => ?_⟩
        rw [hT j hj]
        exact hTM j hj
    · have := b3 i (by omega)
      have e : ∀ k, gI m' (2 + 31 + 2 * i) k = gI m (2 + 31 + 2 * i) k := fun k => hne _ _ (by omega) (by omega) (by omega) (by omega) (by omega) (by omega) (by omega)
      have e' : ∀ k, gI m' (2 + 31 + 2 * i + 1) k = gI m (2 + 31 + 2 * i + 1) k := fun k => hne _ _ (by omega) (by omega) (by omega) (by omega) (by omega) (by omega) (by omega)
      have e7 : ∀ f, 7 ≤ f → f ≤ 10 → gI m' (227 + f) (16 * 0 + i) = gI m (227 + f) (16 * 0 + i) := fun f hf hg => hne _ _ (by omega) (by omega) (by omega) (by omega) (by omega) (by omega) (by omega)
      obtain ⟨w, e1, e2, e3, e4, e5⟩ := this
      refine ⟨?_, ?_⟩
      · simp only [WfC] at w ⊢
        simp only [e, e']
        exact w
      · simp only [EqC, e, e', e7 7 (by omega) (by omega), e7 8 (by omega) (by omega), e7 9 (by omega) (by omega), e7 10 (by omega) (by omega)]
        refine ⟨e1, e2, e3, e4, fun j hj => ?_⟩
        rw [hne (227 + 11) _ (by omega) (by omega) (by omega) (by omega) (by omega) (by omega) (by omega)]
        exact e5 j hj
  · rw [hne (227 + 12) _ (by omega) (by omega) (by omega) (by omega) (by omega) (by omega) (by omega), hne (2 + 3) _ (by omega) (by omega) (by omega) (by omega) (by omega) (by omega) (by omega)]
    exact b4 j hj
  · have e : ∀ k, gI m' (2 + 8 + 2 * s) k = gI m (2 + 8 + 2 * s) k := fun k => hne _ _ (by omega) (by omega) (by omega) (by omega) (by omega) (by omega) (by omega)
    refine ⟨fun i hi => ?_, fun i h1 h2 => ?_⟩
    · by_cases q : i = c
      · subst q
        rw [e, (b5 s hsn).2 i (by omega) hc, Nat.mul_zero, Nat.zero_add]
        exact hZ s (by omega)
      · rw [e, hne (227 + 13) _ (by omega) (by omega) (by omega) (by omega) (by omega) (by omega) (by omega)]
        exact (b5 s hsn).1 i (by omega)
    · rw [e]
      exact (b5 s hsn).2 i (by omega) h2
theorem p_cow : Pr_cow Rel := fun x y b u _ => PrI_ex (fun m hR => by
  obtain ⟨n, c, hs, hb⟩ := hR.2.2.1
  have hc := hs.1.2
  have h7 : gI m 2 7 = nI c := hs.2.2.1.1
  have h3 : gI m 225 3 = nI c := hs.2.2.1.2
  by_cases hok : okC x y u ∧ c < 16
  · obtain ⟨hok, hc⟩ := hok
    refine ⟨nI c, cowC m c x y (bul b) u, cowM (cowC m c x y (bul b) u) c x y (bul b) u, fun o => e_cow hR.1 hc h7 hok o, hR.1, fun o => e_cowM (m := cowC m c x y (bul b) u) hR.1 hc ((cowC_ne _ _ _ _ _ _ _ _ (by omega) (by omega) (by omega)).trans h3) hok o, Rel_cow hR hs hb hc hok ?_⟩
    unfold bul
    by_cases q : b = 0
    · rw [if_pos q]; exact .inl rfl
    · rw [if_neg q]; exact .inr rfl
  · exact ⟨-1, m, m, fun o => e_cow0 hR.1 hc h7 hok o, hR.1, fun o => e_cowM0 hR.1 hc h3 hok o, hR⟩)

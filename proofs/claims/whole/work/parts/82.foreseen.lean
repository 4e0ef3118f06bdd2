/-! ===== foreseen ===== -/
def ab (d : Int32) : Int32 := if 0 ≤ d then d else 0 - d
theorem e_size (d : Int32) (m : Mm) (o : Prop) : F_X12_size d m o = (ab d, m, o) := by
  have e : -d = 0 - d := by rw [Int32.zero_sub]
  simp only [f_X12_size_10, f_X12_size_0, F_X12_size, ab, e]
  by_cases q : 0 ≤ d
  · rw [if_pos q, if_pos q]
  · rw [if_neg q, if_neg q]
/-- how unlike two rows of tastes are -/
def unl (f g : Nat → Int32) : Int32 := sm (fun k => ab (f k - g k)) 0 0 5
theorem l_unlike {m : Mm} (h : Sh m) {c e : Nat} (hc : c < 16) (he : e < 16) : ∀ (k N i : Nat) (a : Int32) (o : Prop), i + k = 5 → k < N → f_X1_unlike_4 N (33 + 2 * c) (33 + 2 * e) a (nI i) m o = (sm (fun k => ab (gI m (34 + 2 * c) k - gI m (34 + 2 * e) k)) a i k, m, o) := by
  obtain ⟨-, r2, r3, r4, r5⟩ := md_cow h (p := 2) (.inl rfl) hc
  obtain ⟨-, u2, u3, u4, u5⟩ := md_cow h (p := 2) (.inl rfl) he
  have r2 : gT m (33 + 2 * c) = 2 := r2
  have r3 : gR m (33 + 2 * c) 5 = 34 + 2 * c := r3
  have r4 : gT m (34 + 2 * c) = 20 := r4
  have r5 : gN m (34 + 2 * c) = 5 := r5
  have u2 : gT m (33 + 2 * e) = 2 := u2
  have u3 : gR m (33 + 2 * e) 5 = 34 + 2 * e := u3
  have u4 : gT m (34 + 2 * e) = 20 := u4
  have u5 : gN m (34 + 2 * e) = 5 := u5
  have n1 : ¬ 34 + 2 * c = 0 := by omega
  have n2 : ¬ 34 + 2 * e = 0 := by omega
  intro k
  induction k with
  | zero =>
    intro N i a o hi hN
    obtain ⟨N, rfl⟩ : ∃ N1, N = N1 + 1 := ⟨N - 1, by omega⟩
    show f_X1_unlike_4b (f_X1_unlike_4 N) _ _ a (nI i) m o = _
    obtain rfl : i = 5 := by omega
    unfold f_X1_unlike_4b
    rw [if_pos (by decide)]
    rfl
  | succ k ih =>
    intro N i a o hi hN
    obtain ⟨N, rfl⟩ : ∃ N1, N = N1 + 1 := ⟨N - 1, by omega⟩
    have hin : vp_in (nI i) 5 := vp_in_nI (by omega) (by omega)
    show f_X1_unlike_4b (f_X1_unlike_4 N) _ _ a (nI i) m o = _
    unfold f_X1_unlike_4b
    rw [if_neg (show ¬ (5 : Int32) ≤ nI (i) from nI_ge (a := i) (b := 5) (by omega) (by omega))]
    simp (config := {decide := true}) only [ix_nI (show i < 2 ^ 31 by omega), r2, r3, r4, r5, u2, u3, u4, u5, n1, n2, hin, ne_eq, not_false_eq_true, and_self, and_true, true_and, and_false, false_and, true_or, or_true, false_or, or_false, not_true_eq_false, if_false, if_true, nI_1, ih N (i + 1) _ _ (show i + 1 + k = 5 by omega) (show k < N by omega), sm, ab]
theorem e_unlike {m : Mm} (h : Sh m) {c e : Nat} (hc : c < 16) (he : e < 16) (o : Prop) : F_X1_unlike (33 + 2 * c) (33 + 2 * e) m o = (unl (gI m (34 + 2 * c)) (gI m (34 + 2 * e)), m, o) := l_unlike h hc he 5 1000 0 0 o (by omega) (by omega)
/-- the choice among the others: U how unlike, L the last votes -/
def fsF (c : Nat) (U L : Nat → Int32) : Int32 → Int32 → Nat → Nat → Int32
  | v, _, _, 0 => v
  | v, l, i, k + 1 => if i = c ∨ L i = -2 then fsF c U L v l (i + 1) k else if v = -2 ∨ U i < l then fsF c U L (L i) (U i) (i + 1) k else fsF c U L v l (i + 1) k
theorem l_foreseen {m : Mm} (h : Sh m) {c w : Nat} (hc : c < w) (hw : w ≤ 16) (h7 : gI m 2 7 = nI w) : ∀ (k N i : Nat) (v l : Int32) (o : Prop), i + k = w → k < N → f_X11_foreseen_18 N 1 (nI c) v l (nI i) m o = (fsF c (fun e => unl (gI m (34 + 2 * c)) (gI m (34 + 2 * e))) (fun e => gI m (33 + 2 * e) 4) v l i k, m, o) := by
  obtain ⟨r1, r2, -⟩ := md_cow h (p := 2) (.inl rfl) (show c < 16 by omega)
  have r1 : gR m 4 c = 33 + 2 * c := r1
  have r2 : gT m (33 + 2 * c) = 2 := r2
  have n1 : ¬ 33 + 2 * c = 0 := by omega
  have hinc : vp_in (nI c) 16 := vp_in_nI (by omega) (by omega)
  intro k
  induction k with
  | zero =>
    intro N i v l o hi hN
    obtain ⟨N, rfl⟩ : ∃ N1, N = N1 + 1 := ⟨N - 1, by omega⟩
    show f_X11_foreseen_18b (f_X11_foreseen_18 N) 1 (nI c) v l (nI i) m o = _
    have hle : nI w ≤ nI i := nI_le (by omega) (by omega)
    simp (config := {decide := true}) only [f_X11_foreseen_18b, shT_1 h, shR_1_0 h, shT_2 h, h7, hle, ne_eq, not_false_eq_true, and_self, and_true, true_and, and_false, false_and, true_or, or_true, false_or, or_false, not_true_eq_false, if_false, if_true, fsF]
  | succ k ih =>
    intro N i v l o hi hN
    obtain ⟨N, rfl⟩ : ∃ N1, N = N1 + 1 := ⟨N - 1, by omega⟩
    obtain ⟨u1, u2, -⟩ := md_cow h (p := 2) (.inl rfl) (show i < 16 by omega)
    have u1 : gR m 4 i = 33 + 2 * i := u1
    have u2 : gT m (33 + 2 * i) = 2 := u2
    have n2 : ¬ 33 + 2 * i = 0 := by omega
    have hin : vp_in (nI i) 16 := vp_in_nI (by omega) (by omega)
    have hle : ¬ nI w ≤ nI i := nI_ge (by omega) (by omega)
    have hic : (nI i = nI c) = (i = c) := propext (nI_eq (by omega) (by omega))
    have hlt : ∀ x y : Int32, (x ≤ y) = ¬ (y < x) := fun x y => propext (i32_nlt y x).symm
    show f_X11_foreseen_18b (f_X11_foreseen_18 N) 1 (nI c) v l (nI i) m o = _
    unfold f_X11_foreseen_18b
    rw [show gR m 1 0 = 2 from shR_1_0 h, h7, if_neg hle]
    simp (config := {decide := true}) only [f_X11_foreseen_83, f_X11_foreseen_97, f_X11_foreseen_103, bnd, hic, hlt, shT_1 h, shR_1_0 h, shT_2 h, shR_2_1 h, shT_4 h, shN_4 h, r1, r2, u1, u2, n1, n2, hin, hinc, ix_nI (show c < 2 ^ 31 by omega), ix_nI (show i < 2 ^ 31 by omega), e_unlike h (show c < 16 by omega) (show i < 16 by omega), ne_eq, not_false_eq_true, and_self, and_true, true_and, and_false, false_and, true_or, or_true, false_or, or_false, not_true_eq_false, if_false, if_true, nI_1, ih N (i + 1) _ _ _ (show i + 1 + k = w by omega) (show k < N by omega), fsF]
    rcases Classical.propComplete (i = c) with q1 | q1 <;> rcases Classical.propComplete (gI m (33 + 2 * i) 4 = -2) with q2 | q2 <;> rcases Classical.propComplete (v = -2) with q3 | q3 <;> rcases Classical.propComplete (unl (gI m (34 + 2 * c)) (gI m (34 + 2 * i)) < l) with q4 | q4 <;> simp (config := {decide := true}) only [q1, q2, q3, q4, ne_eq, not_false_eq_true, and_self, and_true, true_and, and_false, false_and, true_or, or_true, false_or, or_false, not_true_eq_false, if_false, if_true]
theorem ab_small {x y : Int32} (hx : -9 ≤ x.toInt ∧ x.toInt ≤ 9) (hy : -9 ≤ y.toInt ∧ y.toInt ≤ 9) : ∃ d, d ≤ 18 ∧ ab (x - y) = nI d := by
  have hs : (x - y).toInt = x.toInt - y.toInt := fb_subI (by omega) (by omega)
  have h0 : (0 : Int32).toInt = 0 := by decide
  unfold ab
  by_cases q : 0 ≤ x - y
  · rw [if_pos q]
    rw [Int32.le_iff_toInt_le, h0, hs] at q
    refine ⟨(x.toInt - y.toInt).toNat, by omega, ?_⟩
    rw [← Int32.toInt_inj, hs, nI_toInt (by omega)]
    omega
  · rw [if_neg q]
    rw [Int32.le_iff_toInt_le, h0, hs] at q
    refine ⟨(y.toInt - x.toInt).toNat, by omega, ?_⟩
    rw [← Int32.toInt_inj, fb_subI (by rw [h0, hs]; omega) (by rw [h0, hs]; omega), h0, hs, nI_toInt (by omega)]
    omega
theorem sm_nI {f : Nat → Int32} {B : Nat} : ∀ (k i a : Nat), (∀ t, i ≤ t → t < i + k → ∃ d, d ≤ B ∧ f t = nI d) → ∃ r, r ≤ a + B * k ∧ sm f (nI a) i k = nI r
  | 0, i, a, _ => ⟨a, by omega, rfl⟩
  | k + 1, i, a, h => by
    obtain ⟨d, hd, e⟩ := h i (by omega) (by omega)
    obtain ⟨r, hr, e2⟩ := sm_nI k (i + 1) (a + d) (fun t h1 h2 => h t (by omega) (by omega))
    refine ⟨r, ?_, ?_⟩
    · rw [Nat.mul_add]; omega
    · unfold sm
      rw [e, nI_add]
      exact e2
theorem unl_small {f g : Nat → Int32} (hf : ∀ j, j < 5 → -9 ≤ (f j).toInt ∧ (f j).toInt ≤ 9) (hg : ∀ j, j < 5 → -9 ≤ (g j).toInt ∧ (g j).toInt ≤ 9) : ∃ r, r ≤ 90 ∧ unl f g = nI r := by
  obtain ⟨r, hr, e⟩ := sm_nI (f := fun k => ab (f k - g k)) (B := 18) 5 0 0 (fun t _ ht => ab_small (hf t (by omega)) (hg t (by omega)))
  exact ⟨r, by omega, e⟩
theorem l_foreM1 {m : Mm} (h : Sh m) (K : Nat → Int32 → Int32 → Int32 → Int32 → Mm → Prop → Int32 × Mm × Prop) {c e : Nat} (hc : c < 16) (he : e < 16) (v l : Int32) : ∀ (k N i : Nat) (a : Int32) (o : Prop), i + k = 5 → k < N → f_X12_foreseen_54 K N 225 (nI c) v l (nI e) a (nI i) m o = if sm (fun k => ab (gI m 238 (5 * c + k) - gI m 238 (5 * e + k))) a i k < l then K 225 (nI c) (gI m 237 e) (sm (fun k => ab (gI m 238 (5 * c + k) - gI m 238 (5 * e + k))) a i k) (nI (e + 1)) m o else K 225 (nI c) v l (nI (e + 1)) m o := by
  have hin : vp_in (nI e) 16 := vp_in_nI (by omega) (by omega)
  intro k
  induction k with
  | zero =>
    intro N i a o hi hN
    obtain ⟨N, rfl⟩ : ∃ N1, N = N1 + 1 := ⟨N - 1, by omega⟩
    show f_X12_foreseen_54b K (f_X12_foreseen_54 K N) 225 (nI c) v l (nI e) a (nI i) m o = _
    obtain rfl : i = 5 := by omega
    unfold f_X12_foreseen_54b
    rw [if_pos (by decide)]
    simp (config := {decide := true}) only [f_X12_foreseen_118, shT_225 h, shR_225_18 h, shT_237 h, shN_237 h, hin, ix_nI (show e < 2 ^ 31 by omega), nI_1, sm, ne_eq, not_false_eq_true, and_self, and_true, true_and, and_false, false_and, true_or, or_true, false_or, or_false, not_true_eq_false, if_false, if_true]
    rfl
  | succ k ih =>
    intro N i a o hi hN
    obtain ⟨N, rfl⟩ : ∃ N1, N = N1 + 1 := ⟨N - 1, by omega⟩
    have hin1 : vp_in (nI (5 * c + i)) 80 := vp_in_nI (by omega) (by omega)
    have hin2 : vp_in (nI (5 * e + i)) 80 := vp_in_nI (by omega) (by omega)
    show f_X12_foreseen_54b K (f_X12_foreseen_54 K N) 225 (nI c) v l (nI e) a (nI i) m o = _
    unfold f_X12_foreseen_54b
    rw [if_neg (show ¬ (5 : Int32) ≤ nI (i) from nI_ge (a := i) (b := 5) (by omega) (by omega))]
    simp (config := {decide := true}) only [f_X12_foreseen_89, bnd, e_size, (show (5 : Int32) * nI (c) = nI (5 * c) by rw [show (5 : Int32) = nI 5 from rfl, pk_mul]), (show (5 : Int32) * nI (e) = nI (5 * e) by rw [show (5 : Int32) = nI 5 from rfl, pk_mul]), nI_add, shT_225 h, shR_225_19 h, shT_238 h, shN_238 h, hin1, hin2, ix_nI (show 5 * c + i < 2 ^ 31 by omega), ix_nI (show 5 * e + i < 2 ^ 31 by omega), nI_1, ne_eq, not_false_eq_true, and_self, and_true, true_and, and_false, false_and, true_or, or_true, false_or, or_false, not_true_eq_false, if_false, if_true]
    rw [ih N (i + 1) _ _ (by omega) (by omega), sm]
theorem l_foreM {m : Mm} (h : Sh m) {c w : Nat} (hc : c < w) (hw : w ≤ 16) (h3 : gI m 225 3 = nI w) {U L : Nat → Int32} (hU : ∀ e, e < w → sm (fun k => ab (gI m 238 (5 * c + k) - gI m 238 (5 * e + k))) 0 0 5 = U e) (hL : ∀ e, e < w → gI m 237 e = L e ∧ (L e = -2 ∨ ∃ j, j ≤ 4 ∧ L e = nI j)) (hB : ∀ e, e < w → ∃ r, r ≤ 90 ∧ U e = nI r) : ∀ (k N i : Nat) (v l : Int32) (o : Prop), i + k = w → k < N → f_X12_foreseen_20 N 225 (nI c) v (if v = -2 then 1000000000 else l) (nI i) m o = (fsF c U L v l i k, m, o) := by
  intro k
  induction k with
  | zero =>
    intro N i v l o hi hN
    obtain ⟨N, rfl⟩ : ∃ N1, N = N1 + 1 := ⟨N - 1, by omega⟩
    show f_X12_foreseen_20b (f_X12_foreseen_20 N) 225 (nI c) v _ (nI i) m o = _
    have hle : nI w ≤ nI i := nI_le (by omega) (by omega)
    simp (config := {decide := true}) only [f_X12_foreseen_20b, shT_225 h, h3, hle, ne_eq, not_false_eq_true, and_self, and_true, true_and, and_false, false_and, true_or, or_true, false_or, or_false, not_true_eq_false, if_false, if_true, fsF]
  | succ k ih =>
    intro N i v l o hi hN
    obtain ⟨N, rfl⟩ : ∃ N1, N = N1 + 1 := ⟨N - 1, by omega⟩
    have hin : vp_in (nI i) 16 := vp_in_nI (by omega) (by omega)
    have hle : ¬ nI w ≤ nI i := nI_ge (by omega) (by omega)
    have hic : (nI i = nI c) = (i = c) := propext (nI_eq (by omega) (by omega))
    obtain ⟨e1, e2⟩ := hL i (by omega)
    obtain ⟨r, hr, e3⟩ := hB i (by omega)
    have h0 : (0 ≤ gI m 237 i) = ¬ (L i = -2) := by
      rw [e1]
      rcases e2 with e | ⟨j, hj, e⟩
      · rw [e]; exact propext ⟨fun z => absurd z (by decide), fun z => absurd rfl z⟩
      · rw [e]; exact propext ⟨fun _ z => absurd (z ▸ nI_pos' (n := j) (by omega)) (by decide), fun _ => nI_pos' (by omega)⟩
    have hl : ∀ (v l : Int32) (o : Prop), f_X12_foreseen_54 (f_X12_foreseen_20 N) 1000 225 (nI c) v l (nI i) 0 (nI 0) m o = if U i < l then f_X12_foreseen_20 N 225 (nI c) (L i) (U i) (nI (i + 1)) m o else f_X12_foreseen_20 N 225 (nI c) v l (nI (i + 1)) m o := fun v l o => by
      rw [l_foreM1 h _ (by omega) (by omega) v l 5 1000 0 0 o (by omega) (by omega), hU i (by omega), e1]
    rw [nI_0] at hl
    show f_X12_foreseen_20b (f_X12_foreseen_20 N) 225 (nI c) v _ (nI i) m o = _
    unfold f_X12_foreseen_20b
    rw [h3, if_neg hle]
    simp (config := {decide := true}) only [f_X12_foreseen_118, hic, shT_225 h, shR_225_18 h, shT_237 h, shN_237 h, hin, ix_nI (show i < 2 ^ 31 by omega), h0, hl, ne_eq, not_false_eq_true, and_self, and_true, true_and, and_false, false_and, true_or, or_true, false_or, or_false, not_true_eq_false, if_false, if_true, nI_1, fsF]
    have step := fun v l => ih N (i + 1) v l o (by omega) (by omega)
    by_cases q1 : i = c
    · rw [if_pos q1, step, if_pos (Or.inl q1)]
    · rw [if_neg q1]
      by_cases q2 : L i = -2
      · rw [if_neg (not_not_intro q2), step, if_pos (Or.inr q2)]
      · rw [if_pos q2, if_neg (show ¬ (i = c ∨ L i = -2) by simp only [q1, q2, or_self, not_false_eq_true])]
        have s2 := step (L i) (U i)
        rw [if_neg q2] at s2
        by_cases q3 : v = -2
        · rw [if_pos q3, if_pos (show U i < 1000000000 by rw [e3]; exact nI_lt (a := r) (b := 1000000000) (by omega) (by omega)), s2, if_pos (Or.inl q3)]
        · have s3 := step v l
          rw [if_neg q3] at s3
          rw [if_neg q3, s2, s3]
          by_cases q4 : U i < l
          · rw [if_pos q4, if_pos (Or.inr q4)]
          · rw [if_neg q4, if_neg (by simp only [q3, q4, or_self, not_false_eq_true])]
theorem p_foreseen : Pr_foreseen Rel := fun a => PrI_at (fun m hR => by
  have h := hR.1
  obtain ⟨n, w, ⟨⟨hn, hw⟩, -, ⟨h7, h3⟩, -⟩, -, -, hC, -⟩ := hR.2.2.1
  have h3 : gI m 225 3 = nI w := h3
  have hE : ∀ e, e < w → gI m 237 e = gI m (33 + 2 * e) 4 ∧ (gI m (33 + 2 * e) 4 = -2 ∨ ∃ j, j ≤ 4 ∧ gI m (33 + 2 * e) 4 = nI j) ∧ (∀ j, j < 5 → gI m 238 (5 * e + j) = gI m (34 + 2 * e) j) ∧ (∀ j, j < 5 → -9 ≤ (gI m (34 + 2 * e) j).toInt ∧ (gI m (34 + 2 * e) j).toInt ≤ 9) := fun e he => by
    obtain ⟨⟨-, -, -, -, a5, a6⟩, -, -, -, b4, b5⟩ := hC e he
    rw [Nat.mul_zero, Nat.zero_add] at b4
    simp only [Nat.mul_zero, Nat.zero_add] at b5
    have i1 : 2 + 31 + 2 * e = 33 + 2 * e := by omega
    have i2 : 33 + 2 * e + 1 = 34 + 2 * e := by omega
    rw [i1] at a5 b4
    rw [i1, i2] at a6 b5
    exact ⟨b4, a5, b5, a6⟩
  by_cases qa : ∃ s, s < w ∧ a = nI s
  · obtain ⟨c, hc, rfl⟩ := qa
    have ra : (0 ≤ nI c ∧ nI c ≤ nI w - 1) = True := eq_true ((rng_n (by omega)).mpr ⟨c, hc, rfl⟩)
    refine ⟨fsF c (fun e => unl (gI m (34 + 2 * c)) (gI m (34 + 2 * e))) (fun e => gI m (33 + 2 * e) 4) (-2) 0 0 w, fun o => ?_, fun o => ?_⟩
    · have hl := l_foreseen h hc hw h7 w 1000 0 (-2) 0 o (by omega) (by omega)
      rw [nI_0] at hl
      simp (config := {decide := true}) only [f_X11_foreseen_103, f_X11_foreseen_97, f_X11_foreseen_83, f_X11_foreseen_5, f_X11_foreseen_0, F_X11_foreseen, bnd, e_hasCow _ h, h7, ra, bI_0, shT_1 h, ne_eq, not_false_eq_true, and_self, and_true, true_and, and_false, false_and, true_or, or_true, false_or, or_false, not_true_eq_false, if_false, if_true, hl]
    · have hl := l_foreM h hc hw h3 (U := fun e => unl (gI m (34 + 2 * c)) (gI m (34 + 2 * e))) (L := fun e => gI m (33 + 2 * e) 4) (fun e he => sm_congr 5 0 0 (fun t _ ht => by rw [(hE c hc).2.2.1 t (by omega), (hE e he).2.2.1 t (by omega)])) (fun e he => ⟨(hE e he).1, (hE e he).2.1⟩) (fun e he => unl_small (hE c hc).2.2.2 (hE e he).2.2.2) w 1000 0 (-2) 0 o (by omega) (by omega)
      rw [nI_0, if_pos rfl] at hl
      simp (config := {decide := true}) only [f_X12_foreseen_89, f_X12_foreseen_118, f_X12_foreseen_5, f_X12_foreseen_0, F_X12_foreseen, bnd, e_isCowM _ h, h3, ra, bI_0, shT_225 h, ne_eq, not_false_eq_true, and_self, and_true, true_and, and_false, false_and, true_or, or_true, false_or, or_false, not_true_eq_false, if_false, if_true, hl]
  · have ra : (0 ≤ a ∧ a ≤ nI w - 1) = False := eq_false (fun z => qa ((rng_n (by omega)).mp z))
    refine ⟨-1, fun o => ?_, fun o => ?_⟩
    · simp (config := {decide := true}) only [f_X11_foreseen_103, f_X11_foreseen_97, f_X11_foreseen_83, f_X11_foreseen_5, f_X11_foreseen_0, F_X11_foreseen, bnd, e_hasCow _ h, h7, ra, bI_0, shT_1 h, ne_eq, not_false_eq_true, and_self, and_true, true_and, and_false, false_and, true_or, or_true, false_or, or_false, not_true_eq_false, if_false, if_true]
    · simp (config := {decide := true}) only [f_X12_foreseen_89, f_X12_foreseen_118, f_X12_foreseen_5, f_X12_foreseen_0, F_X12_foreseen, bnd, e_isCowM _ h, h3, ra, bI_0, shT_225 h, ne_eq, not_false_eq_true, and_self, and_true, true_and, and_false, false_and, true_or, or_true, false_or, or_false, not_true_eq_false, if_false, if_true])

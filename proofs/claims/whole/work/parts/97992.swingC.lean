/-! ===== swings of the class ===== -/
/-- what a set of v votes and s cows counts, for one of w votes among all A; d = 1: in orders of oth others -/
def swF (d w A oth v s : Nat) : Nat := if 2 * v ≤ A ∧ A < 2 * (v + w) then (if d = 0 then 1 else fac s * fac (oth - s)) else 0
def tmS (d w A B M i j : Nat) : Nat := bin B i * (bin M j * swF d w A (B + M) (9 * i + j) (i + j))
theorem sN_mul (c : Nat) (f : Nat → Nat) : ∀ n, sN (fun i => c * f i) n = c * sN f n
  | 0 => rfl
  | n + 1 => by
    show sN (fun i => c * f i) n + c * f n = c * (sN f n + f n)
    rw [sN_mul c f n, Nat.mul_add]
theorem sN_bd {f : Nat → Nat} {b : Nat} : ∀ {n : Nat}, (∀ i, i < n → f i ≤ b) → sN f n ≤ n * b
  | 0, _ => by rw [Nat.zero_mul]; exact Nat.le_refl _
  | n + 1, h => by
    have h1 := sN_bd (n := n) (fun i hi => h i (by omega))
    have h2 := h n (by omega)
    show sN f n + f n ≤ (n + 1) * b
    rw [Nat.add_mul, Nat.one_mul]
    omega
set_option maxHeartbeats 400000 in
theorem l_sumIn (m : Mm) (K : Int32 → Int32 → Int32 → Int32 → Int32 → Int64 → Int32 → Mm → Prop → Int64 × Mm × Prop) {d w A B M : Nat} (hd : d ≤ 1) (hw : w ≤ 9) (hA : A ≤ 144) (hBM : B + M ≤ 15) {i : Nat} (hi : i ≤ B) (base : Nat) : ∀ (k N j : Nat) (o : Prop), j + k = M + 1 → k < N → f_X8_sum_68 K N (nI d) (nI w) (nI A) (nI B) (nI (B + M)) (lN (base + sN (tmS d w A B M i) j)) (nI i) (nI j) m o = K (nI d) (nI w) (nI A) (nI B) (nI (B + M)) (lN (base + sN (tmS d w A B M i) (M + 1))) (nI (i + 1)) m o := by
  have e9 : (9 : Int32) * nI i = nI (9 * i) := (show (9 : Int32) * nI (i) = nI (9 * i) by rw [show (9 : Int32) = nI 9 from rfl, pk_mul])
  have e2 : ∀ v, (2 : Int32) * nI v = nI (2 * v) := fun v => (show (2 : Int32) * nI (v) = nI (2 * v) by rw [show (2 : Int32) = nI 2 from rfl, pk_mul])
  have eM : nI (B + M) - nI B = nI M := by rw [pk_sub (by omega)]; congr 1; omega
  intro k
  induction k with
  | zero =>
    intro N j o hj hN
    obtain ⟨N, rfl⟩ : ∃ N1, N = N1 + 1 := ⟨N - 1, by omega⟩
    show f_X8_sum_68b K (f_X8_sum_68 K N) _ _ _ _ _ _ (nI i) (nI j) m o = _
    unfold f_X8_sum_68b
    rw [eM, if_pos (nI_lt (by omega) (by omega)), nI_1, show j = M + 1 by omega]
  | succ k ih =>
    intro N j o hj hN
    obtain ⟨N, rfl⟩ : ∃ N1, N = N1 + 1 := ⟨N - 1, by omega⟩
    show f_X8_sum_68b K (f_X8_sum_68 K N) _ _ _ _ _ _ (nI i) (nI j) m o = _
    have c1 : (nI A < nI (2 * (9 * i + j))) = (A < 2 * (9 * i + j)) := propext (nI_ltI (by omega) (by omega))
    have c2 : (nI (2 * (9 * i + j + w)) ≤ nI A) = (2 * (9 * i + j + w) ≤ A) := propext (nI_leI (by omega) (by omega))
    have step := ih N (j + 1) o (by omega) (by omega)
    have hS : sN (tmS d w A B M i) (j + 1) = sN (tmS d w A B M i) j + tmS d w A B M i j := rfl
    rw [hS] at step
    unfold f_X8_sum_68b
    rw [eM, if_neg (fun z => absurd ((nI_ltI (by omega) (by omega)).mp z) (by omega)), e9, nI_add, e2, nI_add, e2]
    simp only [c1, c2]
    unfold f_X8_sum_165
    rw [nI_1]
    by_cases q1 : A < 2 * (9 * i + j)
    · have hz : tmS d w A B M i j = 0 := by
        unfold tmS swF
        rw [if_neg (by omega), Nat.mul_zero, Nat.mul_zero]
      rw [if_pos q1]
      rw [hz, Nat.add_zero] at step
      exact step
    · rw [if_neg q1]
      by_cases q2 : 2 * (9 * i + j + w) ≤ A
      · have hz : tmS d w A B M i j = 0 := by
          unfold tmS swF
          rw [if_neg (by omega), Nat.mul_zero, Nat.mul_zero]
        rw [if_pos q2]
        rw [hz, Nat.add_zero] at step
        exact step
      · rw [if_neg q2, e_choose m hi (by omega) o, bnd_mk]
        have hF : swF d w A (B + M) (9 * i + j) (i + j) = if d = 0 then 1 else fac (i + j) * fac (B + M - (i + j)) := by
          unfold swF
          rw [if_pos (by omega)]
        unfold f_X8_sum_115
        rw [eM, e_choose m (by omega) (by omega) o, bnd_mk]
        unfold f_X8_sum_125
        by_cases qd : d = 0
        · have hT : tmS d w A B M i j = bin B i * bin M j := by
            unfold tmS
            rw [hF, if_pos qd, Nat.mul_one]
          rw [hT] at step
          have z0 : nI d = 0 := by rw [qd]; rfl
          rw [if_pos z0]
          unfold f_X8_sum_162 f_X8_sum_165
          rw [lN_mul, lN_add, nI_1, Nat.add_assoc]
          exact step
        · have hT : tmS d w A B M i j = bin B i * bin M j * fac (i + j) * fac (B + M - (i + j)) := by
            unfold tmS
            rw [hF, if_neg qd]
            simp only [Nat.mul_assoc]
          rw [hT] at step
          have z0 : ¬ nI d = 0 := fun z => qd ((nI_eq (b := 0) (by omega) (by omega)).mp z)
          rw [if_neg z0, nI_add, e_factorial m (by omega) o, bnd_mk]
          unfold f_X8_sum_144
          rw [pk_sub (by omega), pk_sub (by omega), show B + M - i - j = B + M - (i + j) by omega, e_factorial m (by omega) o, bnd_mk]
          unfold f_X8_sum_156 f_X8_sum_162 f_X8_sum_165
          rw [lN_mul, lN_mul, lN_mul, lN_add, nI_1, Nat.add_assoc]
          exact step
set_option maxHeartbeats 400000 in
theorem l_sumOut (m : Mm) {d w A B M : Nat} (hd : d ≤ 1) (hw : w ≤ 9) (hA : A ≤ 144) (hBM : B + M ≤ 15) : ∀ (k N i : Nat) (o : Prop), i + k = B + 1 → k < N → f_X8_sum_58 N (nI d) (nI w) (nI A) (nI B) (nI (B + M)) (lN (sN (fun i => sN (tmS d w A B M i) (M + 1)) i)) (nI i) m o = (lN (sN (fun i => sN (tmS d w A B M i) (M + 1)) (B + 1)), m, o) := by
  intro k
  induction k with
  | zero =>
    intro N i o hi hN
    obtain ⟨N, rfl⟩ : ∃ N1, N = N1 + 1 := ⟨N - 1, by omega⟩
    show f_X8_sum_58b (f_X8_sum_58 N) _ _ _ _ _ _ (nI i) m o = _
    unfold f_X8_sum_58b
    rw [if_pos (nI_lt (by omega) (by omega)), show i = B + 1 by omega]
  | succ k ih =>
    intro N i o hi hN
    obtain ⟨N, rfl⟩ : ∃ N1, N = N1 + 1 := ⟨N - 1, by omega⟩
    show f_X8_sum_58b (f_X8_sum_58 N) _ _ _ _ _ _ (nI i) m o = _
    unfold f_X8_sum_58b
    have h := l_sumIn m (f_X8_sum_58 N) hd hw hA hBM (show i ≤ B by omega) (sN (fun i => sN (tmS d w A B M i) (M + 1)) i) (M + 1) 1000 0 o (by omega) (by omega)
    have z : sN (tmS d w A B M i) 0 = 0 := rfl
    rw [z, Nat.add_zero, nI_0] at h
    have h2 := ih N (i + 1) o (by omega) (by omega)
    have z2 : sN (fun i => sN (tmS d w A B M i) (M + 1)) (i + 1) = sN (fun i => sN (tmS d w A B M i) (M + 1)) i + sN (tmS d w A B M i) (M + 1) := rfl
    rw [z2] at h2
    rw [if_neg (fun z => absurd ((nI_ltI (by omega) (by omega)).mp z) (by omega)), h, h2]
set_option maxHeartbeats 400000 in
theorem dbl_tm (d w A B M : Nat) : sN (fun i => sN (tmS d w A B M i) (M + 1)) (B + 1) = dbl (swF d w A (B + M)) B M 0 0 := by
  unfold dbl
  refine sN_congr (fun b _ => ?_)
  rw [← sN_mul]
  refine sN_congr (fun j _ => ?_)
  unfold tmS
  rw [Nat.zero_add, Nat.zero_add]
/-- how many of nine votes -/
def c9 (vt : Nat → Nat) : Nat → Nat
  | 0 => 0
  | k + 1 => c9 vt k + (if vt k = 9 then 1 else 0)
theorem c9_le (vt : Nat → Nat) : ∀ k, c9 vt k ≤ k
  | 0 => Nat.le_refl _
  | k + 1 => by
    have := c9_le vt k
    show c9 vt k + _ ≤ k + 1
    split <;> omega
set_option maxHeartbeats 400000 in
theorem bul_c9 (vt : Nat → Nat) (x : Nat) : ∀ k, bulN vt x k + (if x < k ∧ vt x = 9 then 1 else 0) = c9 vt k ∧ bulN vt x k + cowN vt x k + (if x < k then 1 else 0) = k
  | 0 => ⟨by rw [if_neg (by omega)]; rfl, by rw [if_neg (by omega)]; rfl⟩
  | k + 1 => by
    obtain ⟨h1, h2⟩ := bul_c9 vt x k
    show bulN vt x k + _ + _ = c9 vt k + _ ∧ bulN vt x k + _ + (cowN vt x k + _) + _ = k + 1
    by_cases q : k = x
    · subst q
      rw [if_neg (by omega)] at h1 h2
      by_cases z : vt k = 9
      · rw [if_pos rfl, if_pos ⟨by omega, z⟩, if_pos z, if_pos rfl, if_pos (by omega)]
        omega
      · rw [if_pos rfl, if_neg (fun y => z y.2), if_neg z, if_pos rfl, if_pos (by omega)]
        omega
    · rw [if_neg q, if_neg q]
      have e1 : (x < k + 1) = (x < k) := propext ⟨fun _ => by omega, fun _ => by omega⟩
      simp only [e1]
      by_cases z : vt k = 9
      · rw [if_pos z, if_pos z]
        omega
      · rw [if_neg z, if_neg z]
        omega
set_option maxHeartbeats 400000 in
theorem l_bulls {m : Mm} (h : Sh m) {w : Nat} (hw : w ≤ 16) (h7 : gI m 2 7 = nI w) {vt : Nat → Nat} (hv : ∀ e, e < w → gI m (33 + 2 * e) 2 = nI (vt e) ∧ (vt e = 1 ∨ vt e = 9)) : ∀ (k N i : Nat) (o : Prop), i + k = w → k < N → f_X8_bullCount_4 N 2 (nI (c9 vt i)) (nI i) m o = (nI (c9 vt w), m, o) := by
  intro k
  induction k with
  | zero =>
    intro N i o hi hN
    obtain ⟨N, rfl⟩ : ∃ N1, N = N1 + 1 := ⟨N - 1, by omega⟩
    show f_X8_bullCount_4b (f_X8_bullCount_4 N) 2 _ (nI i) m o = _
    unfold f_X8_bullCount_4b
    rw [h7, if_pos (nI_le (by omega) (by omega)), show i = w by omega]
    simp (config := {decide := true}) only [shT_2 h, ne_eq, not_false_eq_true, and_self, and_true, true_and, and_false, false_and, true_or, or_true, false_or, or_false, not_true_eq_false, if_false, if_true]
  | succ k ih =>
    intro N i o hi hN
    obtain ⟨N, rfl⟩ : ∃ N1, N = N1 + 1 := ⟨N - 1, by omega⟩
    obtain ⟨u1, u2, -⟩ := md_cow h (p := 2) (.inl rfl) (show i < 16 by omega)
    have u1 : gR m 4 i = 33 + 2 * i := u1
    have u2 : gT m (33 + 2 * i) = 2 := u2
    have n2 : ¬ 33 + 2 * i = 0 := by omega
    have hin : vp_in (nI i) 16 := vp_in_nI (by omega) (by omega)
    have hle : ¬ nI w ≤ nI i := nI_ge (by omega) (by omega)
    obtain ⟨e1, e2⟩ := hv i (by omega)
    have e9 : (gI m (33 + 2 * i) 2 = 9) = (vt i = 9) := by
      rw [e1]
      exact propext (nI_eq (a := vt i) (b := 9) (by omega) (by omega))
    have step := ih N (i + 1) o (by omega) (by omega)
    show f_X8_bullCount_4b (f_X8_bullCount_4 N) 2 _ (nI i) m o = _
    unfold f_X8_bullCount_4b f_X8_bullCount_32
    rw [h7, if_neg hle]
    simp (config := {decide := true}) only [shT_2 h, shR_2_1 h, shT_4 h, shN_4 h, u1, u2, n2, hin, e9, ix_nI (show i < 2 ^ 31 by omega), nI_1, ne_eq, not_false_eq_true, and_self, and_true, true_and, and_false, false_and, true_or, or_true, false_or, or_false, not_true_eq_false, if_false, if_true]
    have hc : c9 vt (i + 1) = c9 vt i + (if vt i = 9 then 1 else 0) := rfl
    rw [hc] at step
    by_cases q : vt i = 9
    · rw [if_pos q] at step ⊢
      rw [← step]
      try exact congrArg (fun z => f_X8_bullCount_4 N 2 z (nI (i + 1)) m o) (nI_add (c9 vt i) 1)
    · rw [if_neg q] at step ⊢
      rw [← step]
      try exact congrArg (fun z => f_X8_bullCount_4 N 2 z (nI (i + 1)) m o) (nI_add (c9 vt i) 0)
set_option maxHeartbeats 400000 in
theorem e_sumC {m : Mm} (h : Sh m) {w x d : Nat} (hw : w ≤ 16) (hx : x < w) (hd : d ≤ 1) (h7 : gI m 2 7 = nI w) {vt : Nat → Nat} (hv : ∀ e, e < w → gI m (33 + 2 * e) 2 = nI (vt e) ∧ (vt e = 1 ∨ vt e = 9)) (o : Prop) : F_X8_sum 2 (nI x) (nI d) m o = (lN (dbl (swF d (vt x) (w + 8 * c9 vt w) (w - 1)) (bulN vt x w) (cowN vt x w) 0 0), m, o) := by
  obtain ⟨u1, u2, -⟩ := md_cow h (p := 2) (.inl rfl) (show x < 16 by omega)
  have u1 : gR m 4 x = 33 + 2 * x := u1
  have u2 : gT m (33 + 2 * x) = 2 := u2
  have n2 : ¬ 33 + 2 * x = 0 := by omega
  have hin : vp_in (nI x) 16 := vp_in_nI (by omega) (by omega)
  obtain ⟨e1, e2⟩ := hv x hx
  obtain ⟨b1, b2⟩ := bul_c9 vt x w
  rw [if_pos hx] at b2
  have b3 := c9_le vt w
  have hb := l_bulls h hw h7 hv w 1000 0 o (by omega) (by omega)
  have zb : c9 vt 0 = 0 := rfl
  rw [zb, nI_0] at hb
  have hb : F_X8_bullCount 2 m o = (nI (c9 vt w), m, o) := hb
  have e8 : (8 : Int32) * nI (c9 vt w) = nI (8 * c9 vt w) := (show (8 : Int32) * nI (c9 vt w) = nI (8 * c9 vt w) by rw [show (8 : Int32) = nI 8 from rfl, pk_mul])
  have hs := l_sumOut m (w := vt x) (A := w + 8 * c9 vt w) (B := bulN vt x w) (M := cowN vt x w) hd (by omega) (by omega) (by omega) (bulN vt x w + 1) 1000 0 o (by omega) (by omega)
  rw [dbl_tm, show bulN vt x w + cowN vt x w = w - 1 by omega] at hs
  have z : lN (sN (fun i => sN (tmS d (vt x) (w + 8 * c9 vt w) (bulN vt x w) (cowN vt x w) i) (cowN vt x w + 1)) 0) = 0 := rfl
  rw [z, nI_0] at hs
  simp (config := {decide := true}) only [F_X8_sum, f_X8_sum_0, shT_2 h, shR_2_1 h, shT_4 h, shN_4 h, u1, u2, n2, hin, ix_nI (show x < 2 ^ 31 by omega), hb, bnd, f_X8_sum_14, f_X8_sum_42, h7, e8, nI_add, e1, nI_sub1 (show 0 < w by omega), ne_eq, not_false_eq_true, and_self, and_true, true_and, and_false, false_and, true_or, or_true, false_or, or_false, not_true_eq_false, if_false, if_true]
  rcases e2 with q | q
  · have z1 : nI (vt x) = 1 := by rw [q]; rfl
    rw [if_neg (by omega), Nat.add_zero] at b1
    rw [if_pos z1, ← b1]
    rw [← b1] at hs
    exact hs
  · have z1 : ¬ nI (vt x) = 1 := by rw [q]; decide
    rw [if_pos ⟨hx, q⟩] at b1
    rw [if_neg z1, nI_sub1 (by omega), show c9 vt w - 1 = bulN vt x w by omega]
    exact hs

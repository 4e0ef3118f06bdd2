/-! ===== check ===== -/
def num4 (B : Nat → Int32) (k : Nat) : Int32 := ((((((((0 : Int32) <<< ((8 : Int32) &&& 31)) ||| B k) <<< ((8 : Int32) &&& 31)) ||| B (k + 1)) <<< ((8 : Int32) &&& 31)) ||| B (k + 2)) <<< ((8 : Int32) &&& 31)) ||| B (k + 3)
theorem e_byteAt {m : Mm} (h : Sh m) {t k : Nat} (ht : t ≤ 220) (hk : k < t) (h1 : gI m 191 1 = nI t) (o : Prop) : F_X9_byteAt 191 (nI k) m o = (gI m 192 k, m, o) := by
  have hin : vp_in (nI k) 220 := vp_in_nI (by omega) (by omega)
  have hrg : (0 ≤ nI k ∧ nI k ≤ nI t - 1) = True := eq_true ((rng_n (by omega)).mpr ⟨k, hk, rfl⟩)
  simp (config := {decide := true}) only [f_X9_byteAt_24, f_X9_byteAt_11, f_X9_byteAt_0, F_X9_byteAt, bnd, e_isWithin, h1, hrg, bI_0, shT_191 h, shR_191_0 h, shT_192 h, shN_192 h, hin, ix_nI (show k < 2 ^ 31 by omega), ne_eq, not_false_eq_true, and_self, and_true, true_and, and_false, false_and, true_or, or_true, false_or, or_false, not_true_eq_false, if_false, if_true]
theorem l_intAt {m : Mm} (h : Sh m) {t k j : Nat} (ht : t ≤ 220) (hk : k + j < t) (hj : j < 4) (h1 : gI m 191 1 = nI t) (v : Int32) (N : Nat) (o : Prop) : f_X9_intAt_4 (N + 1) 191 (nI k) v (nI j) m o = f_X9_intAt_4 N 191 (nI k) ((v <<< ((8 : Int32) &&& 31)) ||| gI m 192 (k + j)) (nI (j + 1)) m o := by
  have hc : ¬ (4 : Int32) ≤ nI j := nI_ge (a := j) (b := 4) hj (by omega)
  show f_X9_intAt_4b (f_X9_intAt_4 N) 191 (nI k) v (nI j) m o = _
  unfold f_X9_intAt_4b f_X9_intAt_20 bnd
  rw [if_neg hc, nI_add, e_byteAt h ht hk h1, nI_1]
  simp only [shT_191 h, and_true]
theorem e_intAt {m : Mm} (h : Sh m) {t k : Nat} (ht : t ≤ 220) (hk : k + 4 ≤ t) (h1 : gI m 191 1 = nI t) (o : Prop) : F_X9_intAt 191 (nI k) m o = (num4 (gI m 192) k, m, o) := by
  show f_X9_intAt_4 1000 191 (nI k) 0 (nI 0) m o = _
  rw [l_intAt h ht (by omega) (by omega) h1, l_intAt h ht (by omega) (by omega) h1, l_intAt h ht (by omega) (by omega) h1, l_intAt h ht (by omega) (by omega) h1]
  show f_X9_intAt_4b (f_X9_intAt_4 995) 191 (nI k) _ (nI 4) m o = _
  unfold f_X9_intAt_4b
  rw [if_pos (by decide)]
  rfl
theorem l_numberAt {m : Mm} (h : Sh m) {k j : Nat} (hk : k < 55) (hj : j < 4) (v : Int32) (N : Nat) (o : Prop) : f_X12_numberAt_4 (N + 1) 225 (nI k) v (nI j) m o = f_X12_numberAt_4 N 225 (nI k) ((v <<< ((8 : Int32) &&& 31)) ||| (gI m 226 (4 * k + j) &&& 255)) (nI (j + 1)) m o := by
  have hc : ¬ (4 : Int32) ≤ nI j := nI_ge (a := j) (b := 4) hj (by omega)
  have e1 : (4 : Int32) * nI k + nI j = nI (4 * k + j) := by rw [show (4 : Int32) = nI 4 from rfl, pk_mul, nI_add]
  have hin : vp_in (nI (4 * k + j)) 220 := vp_in_nI (by omega) (by omega)
  show f_X12_numberAt_4b (f_X12_numberAt_4 N) 225 (nI k) v (nI j) m o = _
  unfold f_X12_numberAt_4b
  rw [if_neg hc]
  simp (config := {decide := true}) only [e1, nI_1, ix_nI (show 4 * k + j < 2 ^ 31 by omega), hin, shT_225 h, shR_225_0 h, shT_226 h, shN_226 h, ne_eq, not_false_eq_true, and_self, and_true, true_and, and_false, false_and, true_or, or_true, false_or, or_false, not_true_eq_false, if_false, if_true]
theorem e_numberAt {m : Mm} (h : Sh m) {k : Nat} (hk : k < 55) (o : Prop) : F_X12_numberAt 225 (nI k) m o = (num4 (fun i => gI m 226 i &&& 255) (4 * k), m, o) := by
  show f_X12_numberAt_4 1000 225 (nI k) 0 (nI 0) m o = _
  rw [l_numberAt h hk (by omega), l_numberAt h hk (by omega), l_numberAt h hk (by omega), l_numberAt h hk (by omega)]
  show f_X12_numberAt_4b (f_X12_numberAt_4 995) 225 (nI k) _ (nI 4) m o = _
  unfold f_X12_numberAt_4b
  rw [if_pos (by decide)]
  rfl
/-- the first from c on, of k, where P does not hold -/
def ckF (P : Nat → Prop) [DecidablePred P] : Nat → Nat → Int32
  | _, 0 => -1
  | c, k + 1 => if P c then ckF P (c + 1) k else nI c
theorem ckF_congr {P Q : Nat → Prop} [DecidablePred P] [DecidablePred Q] : ∀ (k c : Nat), (∀ t, c ≤ t → t < c + k → (P t ↔ Q t)) → ckF P c k = ckF Q c k
  | 0, _, _ => rfl
  | k + 1, c, h => by
    unfold ckF
    rw [ckF_congr k (c + 1) (fun t h1 h2 => h t (by omega) (by omega))]
    by_cases q : P c
    · rw [if_pos q, if_pos ((h c (by omega) (by omega)).mp q)]
    · rw [if_neg q, if_neg (fun z => q ((h c (by omega) (by omega)).mpr z))]
theorem e_empty {m : Mm} (h : Sh m) (o : Prop) : F_X9_empty 191 m o = ((), sI m 191 1 0, o) := by
  simp (config := {decide := true}) only [f_X9_empty_5, f_X9_empty_0, F_X9_empty, shT_191 h, ne_eq, not_false_eq_true, and_self, and_true, true_and, and_false, false_and, true_or, or_true, false_or, or_false, not_true_eq_false, if_false, if_true]
def ckC (m : Mm) (s w : Nat) (c : Nat) : Prop := c < w ∧ num4 (gI m 192) (4 * c) = gI m (10 + 2 * s) c
theorem l_check {m : Mm} (h : Sh m) {t n s w : Nat} (ht : t ≤ 220) (hn : 4 * n ≤ t) (hn2 : n ≤ 16) (hs : s < 12) (hw : w ≤ 16) (h7 : gI m 2 7 = nI w) (h1 : gI m 191 1 = nI t) [DecidablePred (ckC m s w)] : ∀ (k N c : Nat) (o : Prop), c + k = n → k + 1 < N → f_X11_check_39 N 1 (nI s) (nI n) (-1) (nI c) m o = (ckF (ckC m s w) c k, sI m 191 1 0, o) := by
  obtain ⟨r1, r2, r3, r4, r5⟩ := md_stk h (p := 2) (.inl rfl) hs
  have r1 : gR m 3 s = 9 + 2 * s := r1
  have r2 : gT m (9 + 2 * s) = 8 := r2
  have r3 : gR m (9 + 2 * s) 8 = 10 + 2 * s := r3
  have r4 : gT m (10 + 2 * s) = 20 := r4
  have r5 : gN m (10 + 2 * s) = 16 := r5
  have n1 : ¬ 9 + 2 * s = 0 := by omega
  have n2 : ¬ 10 + 2 * s = 0 := by omega
  have hin : vp_in (nI s) 12 := vp_in_nI (by omega) (by omega)
  have hend : ∀ (v : Int32) (o : Prop), f_X11_check_116 1 v m o = (v, sI m 191 1 0, o) := fun v o => by
    simp (config := {decide := true}) only [f_X11_check_116, f_X11_check_123, bnd, e_empty h, shT_1 h, shR_1_3 h, shT_191 h, ne_eq, not_false_eq_true, and_self, and_true, true_and, and_false, false_and, true_or, or_true, false_or, or_false, not_true_eq_false, if_false, if_true]
  intro k
  induction k with
  | zero =>
    intro N c o hc hN
    obtain ⟨N, rfl⟩ : ∃ N1, N = N1 + 1 := ⟨N - 1, by omega⟩
    show f_X11_check_39b (f_X11_check_39 N) 1 (nI s) (nI n) (-1) (nI c) m o = _
    unfold f_X11_check_39b
    rw [if_pos (nI_le (by omega) (by omega)), hend]
    rfl
  | succ k ih =>
    intro N c o hc hN
    obtain ⟨N, rfl⟩ : ∃ N1, N = N1 + 2 := ⟨N - 2, by omega⟩
    have hin2 : vp_in (nI c) 16 := vp_in_nI (by omega) (by omega)
    have e1 : (4 : Int32) * nI c = nI (4 * c) := by rw [show (4 : Int32) = nI 4 from rfl, pk_mul]
    have hnext : ∀ o, f_X11_check_39 (N + 1) 1 (nI s) (nI n) (nI c) (nI c + 1) m o = (nI c, sI m 191 1 0, o) := fun o => by
      show f_X11_check_39b (f_X11_check_39 N) 1 (nI s) (nI n) (nI c) (nI c + 1) m o = _
      unfold f_X11_check_39b
      rw [if_neg (nI_ne_m1 (by omega)), hend, ite_self]
    show f_X11_check_39b (f_X11_check_39 (N + 1)) 1 (nI s) (nI n) (-1) (nI c) m o = _
    unfold f_X11_check_39b
    rw [if_neg (nI_ge (by omega) (by omega)), if_pos rfl]
    by_cases q : c < w
    · have q' : ¬ gI m 2 7 ≤ nI c := by rw [h7]; exact nI_ge q (by omega)
      by_cases q2 : num4 (gI m 192) (4 * c) = gI m (10 + 2 * s) c
      · simp (config := {decide := true}) only [f_X11_check_73, f_X11_check_96, f_X11_check_109, bnd, e1, e_intAt h ht (show 4 * c + 4 ≤ t by omega) h1, ix_nI (show c < 2 ^ 31 by omega), ix_nI (show s < 2 ^ 31 by omega), shT_1 h, shR_1_0 h, shR_1_3 h, shT_2 h, shR_2_0 h, shT_3 h, shN_3 h, shT_191 h, q', q2, r1, r2, r3, r4, r5, n1, n2, hin, hin2, ne_eq, not_false_eq_true, and_self, and_true, true_and, and_false, false_and, true_or, or_true, false_or, or_false, not_true_eq_false, if_false, if_true]
        rw [nI_1, ih (N + 1) (c + 1) o (by omega) (by omega), ckF, if_pos ⟨q, q2⟩]
      · simp (config := {decide := true}) only [f_X11_check_73, f_X11_check_95, f_X11_check_96, f_X11_check_109, bnd, e1, e_intAt h ht (show 4 * c + 4 ≤ t by omega) h1, ix_nI (show c < 2 ^ 31 by omega), ix_nI (show s < 2 ^ 31 by omega), shT_1 h, shR_1_0 h, shR_1_3 h, shT_2 h, shR_2_0 h, shT_3 h, shN_3 h, shT_191 h, q', q2, r1, r2, r3, r4, r5, n1, n2, hin, hin2, ne_eq, not_false_eq_true, and_self, and_true, true_and, and_false, false_and, true_or, or_true, false_or, or_false, not_true_eq_false, if_false, if_true]
        rw [hnext, ckF, if_neg (fun z => q2 z.2)]
    · have q' : gI m 2 7 ≤ nI c := by rw [h7]; exact nI_le (by omega) (by omega)
      simp (config := {decide := true}) only [f_X11_check_95, f_X11_check_96, f_X11_check_109, shT_1 h, shR_1_0 h, shT_2 h, q', ne_eq, not_false_eq_true, and_self, and_true, true_and, and_false, false_and, true_or, or_true, false_or, or_false, not_true_eq_false, if_false, if_true]
      rw [hnext, ckF, if_neg (fun z => q z.1)]
def ckM (m : Mm) (s w : Nat) (c : Nat) : Prop := c < w ∧ num4 (fun i => gI m 226 i &&& 255) (4 * c) = gI m 240 (16 * s + c)
theorem l_checkM {m : Mm} (h : Sh m) {n s w : Nat} (hn2 : n ≤ 16) (hs : s < 12) (hw : w ≤ 16) (h3 : gI m 225 3 = nI w) [DecidablePred (ckM m s w)] : ∀ (k N c : Nat) (o : Prop), c + k = n → k < N → c ≤ w → f_X12_check_40 N 225 (nI s) (nI n) (nI c) m o = (ckF (ckM m s w) c k, m, o) := by
  intro k
  induction k with
  | zero =>
    intro N c o hc hN hcw
    obtain ⟨N, rfl⟩ : ∃ N1, N = N1 + 1 := ⟨N - 1, by omega⟩
    show f_X12_check_40b (f_X12_check_40 N) 225 (nI s) (nI n) (nI c) m o = _
    unfold f_X12_check_40b
    rw [if_pos (nI_le (by omega) (by omega))]
    rfl
  | succ k ih =>
    intro N c o hc hN hcw
    obtain ⟨N, rfl⟩ : ∃ N1, N = N1 + 1 := ⟨N - 1, by omega⟩
    have e1 : (16 : Int32) * nI s + nI c = nI (16 * s + c) := by rw [show (16 : Int32) = nI 16 from rfl, pk_mul, nI_add]
    have hin : vp_in (nI (16 * s + c)) 192 := vp_in_nI (by omega) (by omega)
    show f_X12_check_40b (f_X12_check_40 N) 225 (nI s) (nI n) (nI c) m o = _
    unfold f_X12_check_40b
    rw [if_neg (nI_ge (by omega) (by omega)), h3]
    by_cases q : c = w
    · rw [if_pos (by rw [q]), ckF, if_neg (fun z => by have := z.1; omega)]
      simp (config := {decide := true}) only [f_X12_check_72, shT_225 h, ne_eq, not_false_eq_true, and_self, and_true, true_and, and_false, false_and, true_or, or_true, false_or, or_false, not_true_eq_false, if_false, if_true]
    · rw [if_neg (fun z => q ((nI_eq (by omega) (by omega)).mp z))]
      by_cases q2 : num4 (fun i => gI m 226 i &&& 255) (4 * c) = gI m 240 (16 * s + c)
      · simp (config := {decide := true}) only [f_X12_check_58, bnd, e1, e_numberAt h (show c < 55 by omega), ix_nI (show 16 * s + c < 2 ^ 31 by omega), q2, hin, shT_225 h, shR_225_21 h, shT_240 h, shN_240 h, ne_eq, not_false_eq_true, and_self, and_true, true_and, and_false, false_and, true_or, or_true, false_or, or_false, not_true_eq_false, if_false, if_true]
        rw [nI_1, ih N (c + 1) o (by omega) (by omega) (by omega), ckF, if_pos ⟨by omega, q2⟩]
      · simp (config := {decide := true}) only [f_X12_check_58, f_X12_check_72, bnd, e1, e_numberAt h (show c < 55 by omega), ix_nI (show 16 * s + c < 2 ^ 31 by omega), q2, hin, shT_225 h, shR_225_21 h, shT_240 h, shN_240 h, ne_eq, not_false_eq_true, and_self, and_true, true_and, and_false, false_and, true_or, or_true, false_or, or_false, not_true_eq_false, if_false, if_true]
        rw [ckF, if_neg (fun z => q2 z.2)]
theorem Tape_0 {m m' : Mm} (hR : Rel m) (hS : Sh m') (hr : gR m' 1 9 = gR m 1 9 ∧ gR m' 1 10 = gR m 1 10) (hf : ∀ q i, ¬ inTape q i → gI m' q i = gI m q i) (h1 : gI m' 191 1 = 0) (h2 : gI m' 225 1 = 0) : Rel m' := Rel_tape hR hS hr hf ⟨0, by omega, h1, h2, fun i hi => by omega⟩
theorem p_check : Pr_check Rel := fun a b => PrI_ex (fun m hR => by
  have h := hR.1
  obtain ⟨n, c, ⟨⟨hn, hc⟩, ⟨h6, h2⟩, ⟨h7, h3⟩, -⟩, -, -, -, -, hE⟩ := hR.2.2.1
  have h2 : gI m 225 2 = nI n := h2
  have h3 : gI m 225 3 = nI c := h3
  obtain ⟨t, t1, t2, t3, t4⟩ := hR.2.2.2.2.2.1
  have hl := e_lies b 0 16
  rw [show Int32.toInt64 0 = 0 by decide, show Int32.toInt64 16 = 16 by decide] at hl
  by_cases qa : ∃ s, s < n ∧ a = nI s
  · obtain ⟨s, hs, rfl⟩ := qa
    have ra : (0 ≤ nI s ∧ nI s ≤ nI n - 1) = True := eq_true ((rng_n (by omega)).mpr ⟨s, hs, rfl⟩)
    by_cases qb : 0 ≤ b ∧ b ≤ 16
    · obtain ⟨k, hk, rfl⟩ := rng_in (N := 16) (by decide) qb
      have rb : (0 ≤ nI k ∧ nI k ≤ 16) = True := eq_true qb
      have e4 : (4 : Int32) * nI k = nI (4 * k) := by rw [show (4 : Int32) = nI 4 from rfl, pk_mul]
      have e5 : nI t / (4 : Int32) = nI (t / 4) := pk_div (a := t) (d := 4) (by omega) (by omega) (by omega)
      by_cases qt : 4 * k ≤ t
      · have g1 : (nI (4 * k) ≤ nI t) = True := eq_true (nI_le qt (by omega))
        have g2 : (nI k ≤ nI (t / 4)) = True := eq_true (nI_le (by omega) (by omega))
        haveI : DecidablePred (ckC m s c) := fun _ => Classical.propDecidable _
        haveI : DecidablePred (ckM (sI (sI m 191 1 0) 225 1 0) s c) := fun _ => Classical.propDecidable _
        have hC : ∀ o, F_X11_check 1 (nI s) (nI k) m o = (ckF (ckC m s c) 0 k, sI m 191 1 0, o) := fun o => by
          have hl := l_check h t1 qt hk (show s < 12 by omega) hc h7 t2 k 1000 0 o (by omega) (by omega)
          rw [nI_0] at hl
          simp (config := {decide := true}) only [f_X11_check_31, f_X11_check_109, f_X11_check_96, f_X11_check_95, f_X11_check_73, f_X11_check_123, f_X11_check_116, f_X11_check_15, f_X11_check_5, f_X11_check_0, F_X11_check, bnd, e_hasStack _ h, e_isWithin, h6, ra, rb, bI_0, e4, t2, g1, shT_1 h, shR_1_3 h, shT_191 h, ne_eq, not_false_eq_true, and_self, and_true, true_and, and_false, false_and, true_or, or_true, false_or, or_false, not_true_eq_false, if_false, if_true, hl]
        have hM : ∀ o, F_X12_check 225 (nI s) (nI k) (sI m 191 1 0) o = (ckF (ckM (sI (sI m 191 1 0) 225 1 0) s c) 0 k, sI (sI m 191 1 0) 225 1 0, o) := fun o => by
          have h' : Sh (sI m 191 1 0) := h
          have h2' : gI (sI m 191 1 0) 225 2 = nI n := h2
          have t3' : gI (sI m 191 1 0) 225 1 = nI t := t3
          have hl2 := l_checkM (m := sI (sI m 191 1 0) 225 1 0) h hk (show s < 12 by omega) hc h3 k 1000 0 o (by omega) (by omega) (by omega)
          rw [nI_0] at hl2
          simp (config := {decide := true}) only [f_X12_check_30, f_X12_check_72, f_X12_check_58, f_X12_check_38, f_X12_check_17, f_X12_check_5, f_X12_check_0, F_X12_check, bnd, e_isStackM _ h', hl, h2', ra, rb, bI_0, e5, t3', g2, shT_225 h', ne_eq, not_false_eq_true, and_self, and_true, true_and, and_false, false_and, true_or, or_true, false_or, or_false, not_true_eq_false, if_false, if_true, hl2]
        refine ⟨_, _, sI (sI m 191 1 0) 225 1 0, hC, h, fun o => ?_, Tape_0 hR h ⟨rfl, rfl⟩ (fun q i hq => ?_) rfl rfl⟩
        · rw [hM]
          congr 1
          refine ckF_congr k 0 (fun j _ hj => ?_)
          have e240 : gI (sI (sI m 191 1 0) 225 1 0) 240 (16 * s + j) = gI m 240 (16 * s + j) := rfl
          have e226 : ∀ i, gI (sI (sI m 191 1 0) 225 1 0) 226 i = gI m 226 i := fun i => rfl
          unfold ckM ckC
          have hb : num4 (fun i => gI m 226 i &&& 255) (4 * j) = num4 (gI m 192) (4 * j) := by
            unfold num4
            simp only [(t4 (4 * j) (by omega)).2, (t4 (4 * j + 1) (by omega)).2, (t4 (4 * j + 2) (by omega)).2, (t4 (4 * j + 3) (by omega)).2]
          simp only [e226, e240, hb]
          by_cases qj : j < c
          · have := (hE s hs).1 j qj
            rw [Nat.mul_zero, Nat.zero_add] at this
            have this : gI m 240 (16 * s + j) = gI m (10 + 2 * s) j := this
            rw [this]
          · simp only [qj, false_and]
        · unfold inTape at hq
          rw [gI_sI, if_neg (by omega), gI_sI, if_neg (by omega)]
      · have g1 : (nI (4 * k) ≤ nI t) = False := eq_false (nI_ge (by omega) (by omega))
        have g2 : (nI k ≤ nI (t / 4)) = False := eq_false (nI_ge (by omega) (by omega))
        refine ⟨-2, m, m, fun o => ?_, h, fun o => ?_, hR⟩
        · simp (config := {decide := true}) only [f_X11_check_31, f_X11_check_109, f_X11_check_96, f_X11_check_95, f_X11_check_73, f_X11_check_123, f_X11_check_116, f_X11_check_15, f_X11_check_5, f_X11_check_0, F_X11_check, bnd, e_hasStack _ h, e_isWithin, h6, ra, rb, bI_0, e4, t2, g1, shT_1 h, shR_1_3 h, shT_191 h, ne_eq, not_false_eq_true, and_self, and_true, true_and, and_false, false_and, true_or, or_true, false_or, or_false, not_true_eq_false, if_false, if_true]
        · simp (config := {decide := true}) only [f_X12_check_30, f_X12_check_72, f_X12_check_58, f_X12_check_38, f_X12_check_17, f_X12_check_5, f_X12_check_0, F_X12_check, bnd, e_isStackM _ h, hl, h2, ra, rb, bI_0, e5, t3, g2, shT_225 h, ne_eq, not_false_eq_true, and_self, and_true, true_and, and_false, false_and, true_or, or_true, false_or, or_false, not_true_eq_false, if_false, if_true]
    · have rb : (0 ≤ b ∧ b ≤ 16) = False := eq_false qb
      refine ⟨-2, m, m, fun o => ?_, h, fun o => ?_, hR⟩
      · simp (config := {decide := true}) only [f_X11_check_31, f_X11_check_109, f_X11_check_96, f_X11_check_95, f_X11_check_73, f_X11_check_123, f_X11_check_116, f_X11_check_15, f_X11_check_5, f_X11_check_0, F_X11_check, bnd, e_hasStack _ h, e_isWithin, h6, ra, rb, bI_0, shT_1 h, ne_eq, not_false_eq_true, and_self, and_true, true_and, and_false, false_and, true_or, or_true, false_or, or_false, not_true_eq_false, if_false, if_true]
      · simp (config := {decide := true}) only [f_X12_check_30, f_X12_check_72, f_X12_check_58, f_X12_check_38, f_X12_check_17, f_X12_check_5, f_X12_check_0, F_X12_check, bnd, e_isStackM _ h, hl, h2, ra, rb, bI_0, shT_225 h, ne_eq, not_false_eq_true, and_self, and_true, true_and, and_false, false_and, true_or, or_true, false_or, or_false, not_true_eq_false, if_false, if_true]
  · have ra : (0 ≤ a ∧ a ≤ nI n - 1) = False := eq_false (fun z => qa ((rng_n (by omega)).mp z))
    refine ⟨-2, m, m, fun o => ?_, h, fun o => ?_, hR⟩
    · simp (config := {decide := true}) only [f_X11_check_31, f_X11_check_109, f_X11_check_96, f_X11_check_95, f_X11_check_73, f_X11_check_123, f_X11_check_116, f_X11_check_15, f_X11_check_5, f_X11_check_0, F_X11_check, bnd, e_hasStack _ h, h6, ra, bI_0, shT_1 h, ne_eq, not_false_eq_true, and_self, and_true, true_and, and_false, false_and, true_or, or_true, false_or, or_false, not_true_eq_false, if_false, if_true]
    · simp (config := {decide := true}) only [f_X12_check_30, f_X12_check_72, f_X12_check_58, f_X12_check_38, f_X12_check_17, f_X12_check_5, f_X12_check_0, F_X12_check, bnd, e_isStackM _ h, h2, ra, bI_0, shT_225 h, ne_eq, not_false_eq_true, and_self, and_true, true_and, and_false, false_and, true_or, or_true, false_or, or_false, not_true_eq_false, if_false, if_true])

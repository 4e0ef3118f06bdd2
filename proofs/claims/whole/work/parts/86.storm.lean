/-! ===== storm ===== -/
def mx (x y : Int32) : Int32 := if x < y then y else x
def mn99 (x : Int32) : Int32 := if x < 99 then x else 99
def can (a : Nat → Nat → Int32) (way : Int32) (s t : Nat) : Prop := ¬ a (7 + 2 * s) 7 = 0 ∧ ¬ a (7 + 2 * t) 7 = 0 ∧ a (7 + 2 * s) 2 = a (7 + 2 * t) 2 ∧ ¬ way < ab (a (7 + 2 * s) 0 - a (7 + 2 * t) 0) + ab (a (7 + 2 * s) 1 - a (7 + 2 * t) 1)
def jn (a : Nat → Nat → Int32) (s t : Nat) : Nat → Nat → Int32 := up (up (up (up (up (up a (7 + 2 * s) 3 (a (7 + 2 * s) 3 + a (7 + 2 * t) 3)) (7 + 2 * s) 4 (mn99 (a (7 + 2 * s) 4 + a (7 + 2 * t) 4))) (7 + 2 * s) 5 (mx (a (7 + 2 * s) 5) (a (7 + 2 * t) 5))) (7 + 2 * s) 6 (mx (a (7 + 2 * s) 6) (a (7 + 2 * t) 6))) (7 + 2 * t) 7 0) (7 + 2 * t) 3 0
theorem jn_ne (a : Nat → Nat → Int32) (s t : Nat) {x y : Nat} (h : (x ≠ 7 + 2 * s ∧ x ≠ 7 + 2 * t) ∨ y < 3 ∨ 7 < y) : jn a s t x y = a x y := by
  unfold jn
  rw [up_ne _ _ (by omega), up_ne _ _ (by omega), up_ne _ _ (by omega), up_ne _ _ (by omega), up_ne _ _ (by omega), up_ne _ _ (by omega)]
theorem jn_7 (a : Nat → Nat → Int32) {s t : Nat} (hst : s ≠ t) {x : Nat} : jn a s t (7 + 2 * x) 7 = if x = t then 0 else a (7 + 2 * x) 7 := by
  unfold jn
  rw [up_ne _ _ (by omega)]
  by_cases q : x = t
  · subst q
    rw [up_same, if_pos rfl]
  · rw [up_ne _ _ (by omega), up_ne _ _ (by omega), up_ne _ _ (by omega), up_ne _ _ (by omega), up_ne _ _ (by omega), if_neg q]
theorem can_jn {a : Nat → Nat → Int32} {way : Int32} {s t x y : Nat} (hst : s ≠ t) (h : can (jn a s t) way x y) : can a way x y ∧ x ≠ t ∧ y ≠ t := by
  unfold can at h
  rw [jn_7 a hst, jn_7 a hst, jn_ne a s t (.inr (.inl (by omega))), jn_ne a s t (.inr (.inl (by omega))), jn_ne a s t (.inr (.inl (by omega))), jn_ne a s t (.inr (.inl (by omega))), jn_ne a s t (.inr (.inl (by omega))), jn_ne a s t (.inr (.inl (by omega)))] at h
  obtain ⟨h1, h2, h3, h4⟩ := h
  have hx : x ≠ t := fun z => h1 (if_pos z)
  have hy : y ≠ t := fun z => h2 (if_pos z)
  rw [if_neg hx] at h1
  rw [if_neg hy] at h2
  exact ⟨⟨h1, h2, h3, h4⟩, hx, hy⟩
/-- the pairs one after another -/
def stI (way : Int32) (s : Nat) (D : (Nat → Nat → Int32) → Nat → Nat → Bool) : (Nat → Nat → Int32) × Int32 → Nat → Nat → (Nat → Nat → Int32) × Int32
  | z, _, 0 => z
  | z, t, k + 1 => stI way s D (if D z.1 s t then (jn z.1 s t, z.2 + 1) else z) (t + 1) k
def stO (way : Int32) (n : Nat) (D : (Nat → Nat → Int32) → Nat → Nat → Bool) : (Nat → Nat → Int32) × Int32 → Nat → Nat → (Nat → Nat → Int32) × Int32
  | z, _, 0 => z
  | z, s, k + 1 => stO way n D (stI way s D z (s + 1) (n - (s + 1))) (s + 1) k
noncomputable def canD (way : Int32) (a : Nat → Nat → Int32) (s t : Nat) : Bool := @decide (can a way s t) (Classical.propDecidable _)
theorem canD_t {way : Int32} {a : Nat → Nat → Int32} {s t : Nat} : canD way a s t = true ↔ can a way s t := by
  unfold canD
  exact @decide_eq_true_iff _ (Classical.propDecidable _)
/-! the class -/
theorem e_canJoin {m : Mm} (h : Sh m) {a : Nat → Nat → Int32} (hM : Md m 2 a) {s t : Nat} (hs : s < 12) (ht : t < 12) (way : Int32) (o : Prop) : F_X7_canJoin (9 + 2 * s) (9 + 2 * t) way m o = (if canD way a s t then 1 else 0, m, o) := by
  obtain ⟨-, r2, -⟩ := md_stk h (p := 2) (.inl rfl) hs
  obtain ⟨-, u2, -⟩ := md_stk h (p := 2) (.inl rfl) ht
  have r2 : gT m (9 + 2 * s) = 8 := r2
  have u2 : gT m (9 + 2 * t) = 8 := u2
  have gs : ∀ i, gI m (9 + 2 * s) i = a (7 + 2 * s) i := fun i => Md_at hM (by omega) (by omega) (by omega)
  have gt : ∀ i, gI m (9 + 2 * t) i = a (7 + 2 * t) i := fun i => Md_at hM (by omega) (by omega) (by omega)
  have hD : (if canD way a s t then (1 : Int32) else 0) = @ite _ (can a way s t) (Classical.propDecidable _) 1 0 := by
    by_cases q : can a way s t
    · rw [if_pos (canD_t.mpr q), if_pos q]
    · rw [if_neg (fun z => q (canD_t.mp z)), if_neg q]
  rw [hD]
  unfold can
  simp (config := {decide := true}) only [f_X7_canJoin_59, f_X7_canJoin_58, f_X7_canJoin_0, F_X7_canJoin, gs, gt, r2, u2, ne_eq, not_false_eq_true, and_self, and_true, true_and, and_false, false_and, true_or, or_true, false_or, or_false, not_true_eq_false, if_false, if_true]
  rcases Classical.propComplete (a (7 + 2 * s) 7 = 0) with q1 | q1 <;> rcases Classical.propComplete (a (7 + 2 * t) 7 = 0) with q2 | q2 <;> rcases Classical.propComplete (a (7 + 2 * s) 2 = a (7 + 2 * t) 2) with q3 | q3 <;> rcases Classical.propComplete (way < ab (a (7 + 2 * s) 0 - a (7 + 2 * t) 0) + ab (a (7 + 2 * s) 1 - a (7 + 2 * t) 1)) with q4 | q4 <;> simp only [ab] at q4 ⊢ <;> simp (config := {decide := true}) only [q1, q2, q3, q4, ne_eq, not_false_eq_true, and_self, and_true, true_and, and_false, false_and, true_or, or_true, false_or, or_false, not_true_eq_false, if_false, if_true]
theorem e_takeIn {m : Mm} (h : Sh m) {a : Nat → Nat → Int32} (hM : Md m 2 a) {s t : Nat} (hs : s < 12) (ht : t < 12) (hst : s ≠ t) : ∃ m', (∀ o, F_X7_takeIn (9 + 2 * s) (9 + 2 * t) m o = ((), m', o)) ∧ Md m' 2 (jn a s t) ∧ Fr (fun q _ => 9 ≤ q ∧ q ≤ 32) m m' := by
  obtain ⟨-, r2, -⟩ := md_stk h (p := 2) (.inl rfl) hs
  obtain ⟨-, u2, -⟩ := md_stk h (p := 2) (.inl rfl) ht
  have r2 : gT m (9 + 2 * s) = 8 := r2
  have u2 : gT m (9 + 2 * t) = 8 := u2
  have gs : ∀ i, gI m (9 + 2 * s) i = a (7 + 2 * s) i := fun i => Md_at hM (by omega) (by omega) (by omega)
  have gt : ∀ i, gI m (9 + 2 * t) i = a (7 + 2 * t) i := fun i => Md_at hM (by omega) (by omega) (by omega)
  have hne : (9 + 2 * t = 9 + 2 * s) = False := eq_false (by omega)
  refine ⟨sI (sI (sI (sI (sI (sI m (9 + 2 * s) 3 (a (7 + 2 * s) 3 + a (7 + 2 * t) 3)) (9 + 2 * s) 4 (mn99 (a (7 + 2 * s) 4 + a (7 + 2 * t) 4))) (9 + 2 * s) 5 (mx (a (7 + 2 * s) 5) (a (7 + 2 * t) 5))) (9 + 2 * s) 6 (mx (a (7 + 2 * s) 6) (a (7 + 2 * t) 6))) (9 + 2 * t) 7 0) (9 + 2 * t) 3 0, fun o => by simp (config := {decide := true}) only [mx, mn99, f_X7_takeIn_55, f_X7_takeIn_51, f_X7_takeIn_36, f_X7_takeIn_21, f_X7_takeIn_13, f_X7_takeIn_0, F_X7_takeIn, f_X7_addClover_15, f_X7_addClover_0, F_X7_addClover, f_X7_vanish_10, f_X7_vanish_5, f_X7_vanish_0, F_X7_vanish, bnd, gI_sI, gT_sI, r2, u2, gs, gt, hne, ne_eq, not_false_eq_true, and_self, and_true, true_and, and_false, false_and, true_or, or_true, false_or, or_false, not_true_eq_false, if_false, if_true], ?_, ?_⟩
  · exact Md_up' (Md_up' (Md_up' (Md_up' (Md_up' (Md_up' hM 3 _ (by omega)) 4 _ (by omega)) 5 _ (by omega)) 6 _ (by omega)) 7 _ (by omega)) 3 _ (by omega)
  · exact Fr_sI (Fr_sI (Fr_sI (Fr_sI (Fr_sI (Fr_sI (Fr_refl _ m) ⟨by omega, by omega⟩ _) ⟨by omega, by omega⟩ _) ⟨by omega, by omega⟩ _) ⟨by omega, by omega⟩ _) ⟨by omega, by omega⟩ _) ⟨by omega, by omega⟩ _
theorem l_join1 (way : Int32) (K : Nat → Int32 → Int32 → Int32 → Mm → Prop → Int32 × Mm × Prop) {n s : Nat} (hn : n ≤ 12) (hs : s < n) : ∀ (k N t : Nat) (z : (Nat → Nat → Int32) × Int32) (m : Mm), Sh m → Md m 2 z.1 → z.1 0 6 = nI n → t + k = n → k < N → s < t → ∃ m', (∀ o, f_X5_joinWithin_17 K N 2 way z.2 (nI s) (nI t) m o = K 2 way (stI way s (canD way) z t k).2 (nI (s + 1)) m' o) ∧ Md m' 2 (stI way s (canD way) z t k).1 ∧ Fr (fun q _ => 9 ≤ q ∧ q ≤ 32) m m' := by
  intro k
  induction k with
  | zero =>
    intro N t z m h hM h6 htk hN hst
    obtain ⟨N, rfl⟩ : ∃ N1, N = N1 + 1 := ⟨N - 1, by omega⟩
    refine ⟨m, fun o => ?_, hM, Fr_refl _ m⟩
    have h6' : gI m 2 6 = nI n := (hM 0 6 (by omega) (by omega)).trans h6
    have hle : nI n ≤ nI t := nI_le (by omega) (by omega)
    show f_X5_joinWithin_17b K (f_X5_joinWithin_17 K N) 2 way z.2 (nI s) (nI t) m o = _
    simp (config := {decide := true}) only [f_X5_joinWithin_17b, h6', hle, shT_2 h, nI_1, stI, ne_eq, not_false_eq_true, and_self, and_true, true_and, and_false, false_and, true_or, or_true, false_or, or_false, not_true_eq_false, if_false, if_true]
  | succ k ih =>
    intro N t z m h hM h6 htk hN hst
    obtain ⟨N, rfl⟩ : ∃ N1, N = N1 + 1 := ⟨N - 1, by omega⟩
    have h6' : gI m 2 6 = nI n := (hM 0 6 (by omega) (by omega)).trans h6
    have hle : ¬ nI n ≤ nI t := nI_ge (by omega) (by omega)
    obtain ⟨r1, r2, -⟩ := md_stk h (p := 2) (.inl rfl) (show s < 12 by omega)
    obtain ⟨u1, u2, -⟩ := md_stk h (p := 2) (.inl rfl) (show t < 12 by omega)
    have r1 : gR m 3 s = 9 + 2 * s := r1
    have r2 : gT m (9 + 2 * s) = 8 := r2
    have u1 : gR m 3 t = 9 + 2 * t := u1
    have u2 : gT m (9 + 2 * t) = 8 := u2
    have n1 : ¬ 9 + 2 * s = 0 := by omega
    have n2 : ¬ 9 + 2 * t = 0 := by omega
    have hin1 : vp_in (nI s) 12 := vp_in_nI (by omega) (by omega)
    have hin2 : vp_in (nI t) 12 := vp_in_nI (by omega) (by omega)
    by_cases q : canD way z.1 s t
    · obtain ⟨m1, t1, t2, t3⟩ := e_takeIn h hM (show s < 12 by omega) (show t < 12 by omega) (by omega)
      obtain ⟨m2, v1, v2, v3⟩ := ih N (t + 1) (jn z.1 s t, z.2 + 1) m1 (Fr_Sh t3 h) t2 ((jn_ne _ _ _ (.inl ⟨by omega, by omega⟩)).trans h6) (by omega) (by omega) (by omega)
      refine ⟨m2, fun o => ?_, ?_, Fr_trans t3 v3⟩
      · show f_X5_joinWithin_17b K (f_X5_joinWithin_17 K N) 2 way z.2 (nI s) (nI t) m o = _
        simp (config := {decide := true}) only [f_X5_joinWithin_17b, f_X5_joinWithin_43, f_X5_joinWithin_62, f_X5_joinWithin_65, bnd, h6', hle, shT_2 h, shR_2_0 h, shT_3 h, shN_3 h, r1, r2, u1, u2, n1, n2, hin1, hin2, ix_nI (show s < 2 ^ 31 by omega), ix_nI (show t < 2 ^ 31 by omega), e_canJoin h hM (show s < 12 by omega) (show t < 12 by omega), q, t1, nI_1, stI, ne_eq, not_false_eq_true, and_self, and_true, true_and, and_false, false_and, true_or, or_true, false_or, or_false, not_true_eq_false, if_false, if_true]
        exact v1 o
      · rw [stI, if_pos q]; exact v2
    · obtain ⟨m2, v1, v2, v3⟩ := ih N (t + 1) z m h hM h6 (by omega) (by omega) (by omega)
      refine ⟨m2, fun o => ?_, ?_, v3⟩
      · show f_X5_joinWithin_17b K (f_X5_joinWithin_17 K N) 2 way z.2 (nI s) (nI t) m o = _
        simp (config := {decide := true}) only [f_X5_joinWithin_17b, f_X5_joinWithin_43, f_X5_joinWithin_65, bnd, h6', hle, shT_2 h, shR_2_0 h, shT_3 h, shN_3 h, r1, r2, u1, u2, n1, n2, hin1, hin2, ix_nI (show s < 2 ^ 31 by omega), ix_nI (show t < 2 ^ 31 by omega), e_canJoin h hM (show s < 12 by omega) (show t < 12 by omega), q, nI_1, stI, ne_eq, not_false_eq_true, and_self, and_true, true_and, and_false, false_and, true_or, or_true, false_or, or_false, not_true_eq_false, if_false, if_true]
        exact v1 o
      · rw [stI, if_neg q]; exact v2
theorem stI_ne (way : Int32) (s : Nat) (D : (Nat → Nat → Int32) → Nat → Nat → Bool) {x y : Nat} (h : x < 7 ∨ x % 2 = 0 ∨ y < 3 ∨ 7 < y) : ∀ (k t : Nat) (z : (Nat → Nat → Int32) × Int32), (stI way s D z t k).1 x y = z.1 x y
  | 0, _, _ => rfl
  | k + 1, t, z => by
    unfold stI
    rw [stI_ne way s D h k (t + 1)]
    by_cases q : D z.1 s t
    · rw [if_pos q]; exact jn_ne _ _ _ (by omega)
    · rw [if_neg q]
theorem l_join2 (way : Int32) {n : Nat} (hn : n ≤ 12) : ∀ (k N s : Nat) (z : (Nat → Nat → Int32) × Int32) (m : Mm), Sh m → Md m 2 z.1 → z.1 0 6 = nI n → s + k = n → k < N → ∃ m', (∀ o, f_X5_joinWithin_4 N 2 way z.2 (nI s) m o = ((stO way n (canD way) z s k).2, m', o)) ∧ Md m' 2 (stO way n (canD way) z s k).1 ∧ Fr (fun q _ => 9 ≤ q ∧ q ≤ 32) m m' := by
  intro k
  induction k with
  | zero =>
    intro N s z m h hM h6 hsk hN
    obtain ⟨N, rfl⟩ : ∃ N1, N = N1 + 1 := ⟨N - 1, by omega⟩
    refine ⟨m, fun o => ?_, hM, Fr_refl _ m⟩
    have h6' : gI m 2 6 = nI n := (hM 0 6 (by omega) (by omega)).trans h6
    have hle : nI n ≤ nI s := nI_le (by omega) (by omega)
    show f_X5_joinWithin_4b (f_X5_joinWithin_4 N) 2 way z.2 (nI s) m o = _
    simp (config := {decide := true}) only [f_X5_joinWithin_4b, h6', hle, shT_2 h, stO, ne_eq, not_false_eq_true, and_self, and_true, true_and, and_false, false_and, true_or, or_true, false_or, or_false, not_true_eq_false, if_false, if_true]
  | succ k ih =>
    intro N s z m h hM h6 hsk hN
    obtain ⟨N, rfl⟩ : ∃ N1, N = N1 + 1 := ⟨N - 1, by omega⟩
    have h6' : gI m 2 6 = nI n := (hM 0 6 (by omega) (by omega)).trans h6
    have hle : ¬ nI n ≤ nI s := nI_ge (by omega) (by omega)
    obtain ⟨m1, a1, a2, a3⟩ := l_join1 way (f_X5_joinWithin_4 N) hn (show s < n by omega) (n - (s + 1)) 1000 (s + 1) z m h hM h6 (by omega) (by omega) (by omega)
    obtain ⟨m2, b1, b2, b3⟩ := ih N (s + 1) (stI way s (canD way) z (s + 1) (n - (s + 1))) m1 (Fr_Sh a3 h) a2 ((stI_ne _ _ _ (by omega) _ _ _).trans h6) (by omega) (by omega)
    refine ⟨m2, fun o => ?_, b2, Fr_trans a3 b3⟩
    show f_X5_joinWithin_4b (f_X5_joinWithin_4 N) 2 way z.2 (nI s) m o = _
    simp (config := {decide := true}) only [f_X5_joinWithin_4b, h6', hle, shT_2 h, nI_1, a1, b1, stO, ne_eq, not_false_eq_true, and_self, and_true, true_and, and_false, false_and, true_or, or_true, false_or, or_false, not_true_eq_false, if_false, if_true]

/-! ===== tools: indices, sums, a memory with other ints ===== -/
theorem ix_nI {i : Nat} (h : i < 2 ^ 31) : ix (nI i) = i := nI_clamp h
/-- the memory with other ints -/
def uI (m : Mm) (f : Nat → Nat → Int32) : Mm := (f, m.2)
theorem gI_uI (m : Mm) (f : Nat → Nat → Int32) (q i : Nat) : gI (uI m f) q i = f q i := rfl
theorem gL_uI (m : Mm) (f : Nat → Nat → Int32) (q i : Nat) : gL (uI m f) q i = gL m q i := rfl
theorem gR_uI (m : Mm) (f : Nat → Nat → Int32) (q i : Nat) : gR (uI m f) q i = gR m q i := rfl
theorem gT_uI (m : Mm) (f : Nat → Nat → Int32) (q : Nat) : gT (uI m f) q = gT m q := rfl
theorem gN_uI (m : Mm) (f : Nat → Nat → Int32) (q : Nat) : gN (uI m f) q = gN m q := rfl
theorem Sh_uI {m : Mm} (h : Sh m) (f : Nat → Nat → Int32) : Sh (uI m f) := h
theorem uI_self (m : Mm) : uI m (fun q i => gI m q i) = m := rfl
theorem uI_uI (m : Mm) (f g : Nat → Nat → Int32) : uI (uI m f) g = uI m g := rfl
theorem sI_uI (m : Mm) (f : Nat → Nat → Int32) (q i : Nat) (v : Int32) : sI (uI m f) q i v = uI m (fun a b => if a = q ∧ b = i then v else f a b) := rfl
theorem sI_u (m : Mm) (q i : Nat) (v : Int32) : sI m q i v = uI m (fun a b => if a = q ∧ b = i then v else gI m a b) := rfl
theorem uI_sI (m : Mm) (q i : Nat) (v : Int32) (g : Nat → Nat → Int32) : uI (sI m q i v) g = uI m g := rfl
theorem uI_ext {m : Mm} {f g : Nat → Nat → Int32} (h : ∀ q i, f q i = g q i) : uI m f = uI m g := by
  have : f = g := funext (fun q => funext (fun i => h q i))
  rw [this]
/-- from the i-th on, k of them, added to a -/
def sm (f : Nat → Int32) : Int32 → Nat → Nat → Int32
  | a, _, 0 => a
  | a, i, k + 1 => sm f (a + f i) (i + 1) k
theorem sm_congr {g g' : Nat → Int32} : ∀ (k i : Nat) (a : Int32), (∀ t, i ≤ t → t < i + k → g t = g' t) → sm g a i k = sm g' a i k
  | 0, _, _, _ => rfl
  | k + 1, i, a, h => by
    unfold sm
    rw [h i (by omega) (by omega)]
    exact sm_congr k (i + 1) _ (fun t h1 h2 => h t (by omega) (by omega))
theorem sm_add (f : Nat → Int32) : ∀ (k i : Nat) (a b : Int32), sm f (a + b) i k = a + sm f b i k
  | 0, _, _, _ => rfl
  | k + 1, i, a, b => by
    unfold sm
    rw [Int32.add_assoc, sm_add f k (i + 1)]
theorem sm_0 (f : Nat → Int32) (k i : Nat) (a : Int32) : sm f a i k = a + sm f 0 i k := by
  have h := sm_add f k i a 0
  rw [Int32.add_zero] at h
  exact h
theorem sm_none {f : Nat → Int32} : ∀ (k i : Nat) (a : Int32), (∀ t, i ≤ t → t < i + k → f t = 0) → sm f a i k = a
  | 0, _, _, _ => rfl
  | k + 1, i, a, h => by
    unfold sm
    rw [h i (by omega) (by omega), Int32.add_zero]
    exact sm_none k (i + 1) a (fun t h1 h2 => h t (by omega) (by omega))
theorem sm_one {f : Nat → Int32} {j : Nat} : ∀ (k i : Nat) (a : Int32), i ≤ j → j < i + k → (∀ t, i ≤ t → t < i + k → t ≠ j → f t = 0) → sm f a i k = a + f j
  | 0, _, _, h1, h2, _ => by omega
  | k + 1, i, a, h1, h2, h => by
    unfold sm
    by_cases q : i = j
    · subst q
      exact sm_none k (i + 1) _ (fun t t1 t2 => h t (by omega) (by omega) (by omega))
    · rw [h i (by omega) (by omega) q, Int32.add_zero]
      exact sm_one k (i + 1) a (by omega) (by omega) (fun t t1 t2 t3 => h t (by omega) (by omega) t3)
theorem sm_split (f : Nat → Int32) : ∀ (k i l : Nat) (a : Int32), sm f a i (k + l) = sm f (sm f a i k) (i + k) l
  | 0, i, l, a => by rw [Nat.zero_add, Nat.add_zero]; rfl
  | k + 1, i, l, a => by
    rw [show k + 1 + l = (k + l) + 1 by omega]
    show sm f (a + f i) (i + 1) (k + l) = _
    rw [sm_split f k (i + 1) l, show i + 1 + k = i + (k + 1) by omega]
    rfl
theorem sm_last (f : Nat → Int32) (k i : Nat) (a : Int32) : sm f a i (k + 1) = sm f a i k + f (i + k) := sm_split f k i 1 a
theorem last_lt {i k : Nat} (h : i + k < 2 ^ 30) : (nI (i + k) - 1 < nI i) ↔ k = 0 := by
  rw [Int32.lt_iff_toInt_lt, nI_toInt1 h, nI_toInt (by omega)]
  omega
theorem nI_sub1 {n : Nat} (h : 0 < n) : nI n - 1 = nI (n - 1) := by
  have := nI_pred (n - 1)
  rw [Nat.sub_add_cancel h] at this
  exact this
/-! ===== how many stand, on the other side; count ===== -/
theorem l_standingM {m : Mm} (h : Sh m) {n : Nat} (hn : n ≤ 12) (h2 : gI m 225 2 = nI n) : ∀ (k N i : Nat) (a : Int32) (o : Prop), i + k = n → k < N → f_X12_standing_4 N 225 a (nI i) m o = (sumI (fun t => gI m 233 t) a i k, m, o) := by
  intro k
  induction k with
  | zero =>
    intro N i a o hi hN
    obtain ⟨N, rfl⟩ : ∃ N', N = N' + 1 := ⟨N - 1, by omega⟩
    show f_X12_standing_4b (f_X12_standing_4 N) 225 a (nI i) m o = _
    unfold f_X12_standing_4b
    rw [h2, if_pos (nI_le (by omega) (by omega))]
    simp [shT_225 h, sumI]
  | succ k ih =>
    intro N i a o hi hN
    obtain ⟨N, rfl⟩ : ∃ N', N = N' + 1 := ⟨N - 1, by omega⟩
    have hin : vp_in (nI i) 12 := vp_in_nI (by omega) (by omega)
    show f_X12_standing_4b (f_X12_standing_4 N) 225 a (nI i) m o = _
    unfold f_X12_standing_4b f_X12_standing_27
    rw [h2, if_neg (nI_ge (by omega) (by omega))]
    simp (config := {decide := true}) only [ix_nI (show i < 2 ^ 31 by omega), shT_225 h, shR_225_14 h, shT_233 h, shN_233 h, hin, ne_eq, not_false_eq_true, and_self, and_true, true_and, and_false, false_and, true_or, or_true, false_or, or_false, not_true_eq_false, if_false, if_true, nI_1]
    rw [ih N (i + 1) _ o (by omega) (by omega), ih N (i + 1) _ o (by omega) (by omega), sumI]
    by_cases q : gI m 233 i = 0
    · rw [if_pos q, if_pos q]
    · rw [if_neg q, if_neg q]
theorem e_standingCount {m : Mm} (h : Sh m) {p n : Nat} (hp : isMd p) (hn : n ≤ 12) (h6 : gI m p 6 = nI n) (o : Prop) : F_X5_standingCount p m o = (sumI (fun t => gI m (p + 7 + 2 * t) 7) 0 0 n, m, o) := l_standing h hp hn h6 n 1000 0 0 o (by omega) (by omega)
theorem e_standingM {m : Mm} (h : Sh m) {n : Nat} (hn : n ≤ 12) (h2 : gI m 225 2 = nI n) (o : Prop) : F_X12_standing 225 m o = (sumI (fun t => gI m 233 t) 0 0 n, m, o) := l_standingM h hn h2 n 1000 0 0 o (by omega) (by omega)
theorem standing_eq {m : Mm} {n c : Nat} (hb : RMb m 2 227 0 n c) : sumI (fun t => gI m 233 t) 0 0 n = sumI (fun t => gI m (2 + 7 + 2 * t) 7) 0 0 n := by
  refine sumI_congr n 0 0 (fun t _ ht => ?_)
  have := (hb.1 t (by omega)).2.2.2.2.2.2.2
  rw [Nat.mul_zero, Nat.zero_add] at this
  exact this
theorem ite3 {c : Prop} [Decidable c] (x y : Int32) (m : Mm) (o : Prop) : (if c then (x, m, o) else (y, m, o)) = (if c then x else y, m, o) := by
  by_cases h : c <;> simp [h]
theorem law_at {m : Mm} (h : Sh m) (hl : LawPl m) : gR m 1 9 ≠ 0 ∧ gT m (gR m 1 9) = 4 := by
  rcases hl with ⟨e, -⟩ | ⟨e, -⟩
  · rw [e]; exact ⟨by decide, shT_205 h⟩
  · rw [e]; exact ⟨by decide, shT_215 h⟩
theorem p_count : Pr_count Rel := fun a => PrI_at (fun m hR => by
  have h := hR.1
  obtain ⟨n, c, ⟨⟨hn, hc⟩, ⟨h6, h2⟩, ⟨h7, h3⟩, hd, hs, hsd, hx, -⟩, hb⟩ := hR.2.2.1
  have h2 : gI m 225 2 = nI n := h2
  have h3 : gI m 225 3 = nI c := h3
  have hd : gI m 2 10 = gI m 225 4 := hd
  have hs : gI m 2 8 = gI m 225 6 := hs
  have hx : gI m 2 11 = gI m 225 5 := hx
  have hsd : gI m 2 9 = if gI m 225 6 = -1 then -1 else gI m 225 7 := by
    rcases hsd with ⟨e1, e2⟩ | ⟨e1, s, e2, e3⟩
    · have e1 : gI m 225 6 = -1 := e1
      rw [if_pos e1, e2]
    · have e3 : gI m 225 6 = nI s := e3
      rw [if_neg (by rw [e3]; exact nI_ne_m1 (by omega))]
      exact e1
  obtain ⟨t, -, ht1, ht2, -⟩ := hR.2.2.2.2.2.1
  obtain ⟨l, -, hl1, hl2, -⟩ := hR.2.2.2.2.2.2
  obtain ⟨hl3, hl4⟩ := law_at h hR.2.1
  refine ⟨(if a = 0 then gI m 225 4 else if a = 1 then nI n else if a = 2 then nI c else if a = 3 then nI l else if a = 4 then nI t else if a = 5 then gI m 225 5 else if a = 6 then sumI (fun t => gI m (2 + 7 + 2 * t) 7) 0 0 n else if a = 7 then gI m 225 6 else if a = 8 then (if gI m 225 6 = -1 then -1 else gI m 225 7) else -1), fun o => ?_, fun o => ?_⟩
  · unfold F_X11_count f_X11_count_0 f_X11_count_107 bnd
    simp (config := {decide := true}) only [shT_1 h, shR_1_0 h, shR_1_3 h, shT_2 h, shT_191 h, ne_eq, not_false_eq_true, and_self, and_true, true_and, and_false, false_and, true_or, or_true, false_or, or_false, not_true_eq_false, if_false, if_true, e_standingCount h (.inl rfl) hn h6, hd, h6, h7, hl1, ht1, hx, hs, hsd, hl3, hl4, ite3]
  · unfold F_X12_count f_X12_count_0 f_X12_count_86 f_X12_count_108 bnd
    simp only [shT_225 h, and_true, e_standingM h hn h2, h2, h3, hl2, ht2, standing_eq hb, ite3])

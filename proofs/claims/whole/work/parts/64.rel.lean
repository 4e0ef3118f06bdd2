/-! ===== what class and reference have in common between two calls =====
A meadow at p: its stack s is the place p + 7 + 2 s (x 0, y 1, colour 2, hay 3, clover 4, damp 5, heat 6, stands 7), what was eaten of it p + 8 + 2 s; its cow c is p + 31 + 2 c (x 0, y 1, votes 2, hunger 3, last vote 4), its tastes p + 32 + 2 c; counts p + 3; numbers of p: 6 stacks, 7 cows, 8 salted stack, 9 its day, 10 the day, 11 X.
The reference's rows stand at A .. A + 13 (227: now, 257: set aside, k-th part): square, colour, hay, clover, damp, heat, stands, cow's square, votes, hunger, last vote, tastes, counts, eaten. -/
def hsum (f : Nat → Int32) : Nat → Nat
  | 0 => 0
  | n + 1 => hsum f n + (f n).toNatClampNeg
def WfS (m : Mm) (q : Nat) : Prop := (∃ x, x ≤ 9 ∧ gI m q 0 = nI x) ∧ (∃ y, y ≤ 9 ∧ gI m q 1 = nI y) ∧ (∃ c, c ≤ 4 ∧ gI m q 2 = nI c) ∧ (∃ h, h < 2 ^ 31 ∧ gI m q 3 = nI h) ∧ (∃ v, v ≤ 99 ∧ gI m q 4 = nI v) ∧ (∃ w, w ≤ 99 ∧ gI m q 5 = nI w) ∧ (∃ t, t ≤ 598 ∧ gI m q 6 = nI t ∧ (gI m q 7 = 1 → t ≤ 499)) ∧ (gI m q 7 = 0 ∨ gI m q 7 = 1)
def EqS (m : Mm) (q A i : Nat) : Prop := gI m A i = 10 * gI m q 1 + gI m q 0 ∧ gI m (A + 1) i = gI m q 2 ∧ gI m (A + 2) i = gI m q 3 ∧ gI m (A + 3) i = gI m q 4 ∧ gI m (A + 4) i = gI m q 5 ∧ gI m (A + 5) i = gI m q 6 ∧ gI m (A + 6) i = gI m q 7
def WfC (m : Mm) (q : Nat) : Prop := (∃ x, x ≤ 9 ∧ gI m q 0 = nI x) ∧ (∃ y, y ≤ 9 ∧ gI m q 1 = nI y) ∧ (gI m q 2 = 1 ∨ gI m q 2 = 9) ∧ (∃ u, 1 ≤ u ∧ u ≤ 9 ∧ gI m q 3 = nI u) ∧ (gI m q 4 = -2 ∨ ∃ c, c ≤ 4 ∧ gI m q 4 = nI c) ∧ ∀ j, j < 5 → -9 ≤ (gI m (q + 1) j).toInt ∧ (gI m (q + 1) j).toInt ≤ 9
def EqC (m : Mm) (q A i t : Nat) : Prop := gI m (A + 7) i = 10 * gI m q 1 + gI m q 0 ∧ gI m (A + 8) i = gI m q 2 ∧ gI m (A + 9) i = gI m q 3 ∧ gI m (A + 10) i = gI m q 4 ∧ ∀ j, j < 5 → gI m (A + 11) (t + j) = gI m (q + 1) j
/-- the numbers: n stacks and c cows -/
def RMs (m : Mm) (p : Nat) (num : Nat → Int32) (n c : Nat) : Prop :=
  (n ≤ 12 ∧ c ≤ 16) ∧ (gI m p 6 = nI n ∧ num 0 = nI n) ∧ (gI m p 7 = nI c ∧ num 1 = nI c) ∧ gI m p 10 = num 2 ∧ gI m p 8 = num 3 ∧ ((num 3 = -1 ∧ gI m p 9 = -1) ∨ (gI m p 9 = num 4 ∧ ∃ s, s < n ∧ num 3 = nI s)) ∧ gI m p 11 = num 5 ∧ (∃ x, x < 65536 ∧ num 5 = nI x)
/-- the stacks, the cows, the counts, what was eaten -/
def RMb (m : Mm) (p A k n c : Nat) : Prop :=
  (∀ s, s < n → WfS m (p + 7 + 2 * s) ∧ EqS m (p + 7 + 2 * s) A (12 * k + s)) ∧ hsum (fun s => gI m (p + 7 + 2 * s) 3) n ≤ 999 * n ∧
  (∀ i, i < c → WfC m (p + 31 + 2 * i) ∧ EqC m (p + 31 + 2 * i) A (16 * k + i) (80 * k + 5 * i)) ∧
  (∀ j, j < 5 → gI m (A + 12) (5 * k + j) = gI m (p + 3) j) ∧
  (∀ s, s < n → (∀ i, i < c → gI m (A + 13) (192 * k + 16 * s + i) = gI m (p + 8 + 2 * s) i) ∧ ∀ i, c ≤ i → i < 16 → gI m (p + 8 + 2 * s) i = 0)
def RMn (m : Mm) (p A k : Nat) (num : Nat → Int32) (n c : Nat) : Prop := RMs m p num n c ∧ RMb m p A k n c
def RM (m : Mm) (p A k : Nat) (num : Nat → Int32) : Prop := ∃ n c, RMn m p A k num n c
/-- the reference's numbers: stacks, cows, day, salted, from which day, X -/
def cnum (m : Mm) (j : Nat) : Int32 := gI m 225 (if j = 0 then 2 else if j = 1 then 3 else if j = 2 then 4 else if j = 3 then 6 else if j = 4 then 7 else 5)
def knum (m : Mm) (k j : Nat) : Int32 := gI m 271 (6 * k + j)
def TapeR (m : Mm) : Prop := ∃ t, t ≤ 220 ∧ gI m 191 1 = nI t ∧ gI m 225 1 = nI t ∧ ∀ i, i < t → (∃ b, b < 256 ∧ gI m 192 i = nI b) ∧ gI m 226 i &&& 255 = gI m 192 i
def LawPl (m : Mm) : Prop := (gR m 1 9 = 205 ∧ gR m 1 10 = 215) ∨ (gR m 1 9 = 215 ∧ gR m 1 10 = 205)
def LwR (m : Mm) : Prop := LwP (gI m (gR m 1 9) 10) (fun k i => if 1 ≤ k ∧ k ≤ 8 ∧ k ≠ 7 then gI m (gR m 1 9 + k) i else 0) (gI m 225 22) (fun k i => if k ≤ 5 then gI m (241 + k) i else 0)
def Rel (m : Mm) : Prop := Sh m ∧ LawPl m ∧ RM m 2 227 0 (cnum m) ∧ (gI m 1 11 = gI m 225 77 ∧ (gI m 1 11 = 0 ∨ gI m 1 11 = 1)) ∧ (gI m 1 11 = 1 → RM m 65 257 1 (knum m 1)) ∧ TapeR m ∧ LwR m
theorem Rel_0 : Rel mZ := by
  obtain ⟨h1, h2, h3, h4, -, -, -, -, -, -, h5, h6⟩ := mZ_ints
  obtain ⟨z1, z2, z3, z4, z5, z6, z7, z8, z9, z10, z11, z12, z13, z14, z15, z16, z17, z18, z19, z20, z21, z22, z23⟩ := mZ_zero
  have n0 : (0 : Int32) = nI 0 := rfl
  refine ⟨Sh_mZ, .inl mZ_laws, ⟨0, 0, ⟨⟨by omega, by omega⟩, ⟨z8.trans n0, z2.trans n0⟩, ⟨z9.trans n0, z3.trans n0⟩, z10.trans z4.symm, h2.trans h6.symm, .inl ⟨h6, h3⟩, h4.trans h5.symm, ⟨1, by omega, h5⟩⟩, fun s hs => by omega, by unfold hsum; omega, fun i hi => by omega, fun j hj => ?_, fun s hs => by omega⟩, ⟨h1.trans z7.symm, .inl h1⟩, fun h => ?_, ⟨0, by omega, z11.trans n0, z1.trans n0, fun i hi => by omega⟩, ?_⟩
  · match j, hj with
    | 0, _ => exact z19.trans z14.symm
    | 1, _ => exact z20.trans z15.symm
    | 2, _ => exact z21.trans z16.symm
    | 3, _ => exact z22.trans z17.symm
    | 4, _ => exact z23.trans z18.symm
  · rw [h1] at h
    exact absurd h (by decide)
  · unfold LwR
    rw [mZ_laws.1]
    refine ⟨0, by omega, z12.trans n0, z6.trans n0, fun j hj => .inl ?_, fun _ _ => none, fun _ _ => none, fun k hk => by omega⟩
    show (if 1 ≤ 8 ∧ 8 ≤ 8 ∧ 8 ≠ 7 then gI mZ (205 + 8) j else 0) = 0
    rw [if_pos (by decide)]
    exact (show ∀ j, j < 10 → gI mZ (205 + 8) j = 0 by decide +kernel) j hj
/-- which places a meadow's body and its rows are: of the rows only the k-th part and what is behind it -/
def off (f : Nat) : Nat := if f ≤ 6 then 12 else if f ≤ 10 then 16 else if f = 11 then 80 else if f = 12 then 5 else 192
def FB (p A k q i : Nat) : Prop := q = p + 3 ∨ (p + 7 ≤ q ∧ q ≤ p + 62) ∨ (A ≤ q ∧ q ≤ A + 13 ∧ off (q - A) * k ≤ i)
theorem hsum_congr {f g : Nat → Int32} : ∀ {n : Nat}, (∀ s, s < n → f s = g s) → hsum f n = hsum g n
  | 0, _ => rfl
  | n + 1, h => by
    unfold hsum
    rw [hsum_congr (fun s hs => h s (by omega)), h n (by omega)]
theorem RMb_frame {m m' : Mm} {p A k n c : Nat} (hn : n ≤ 12) (hc : c ≤ 16) (hb : ∀ q i, FB p A k q i → gI m' q i = gI m q i) (h : RMb m p A k n c) : RMb m' p A k n c := by
  obtain ⟨h1, h2, h3, h4, h5⟩ := h
  have hs : ∀ s, s < n → ∀ i, gI m' (p + 7 + 2 * s) i = gI m (p + 7 + 2 * s) i := fun s hs i => hb _ _ (.inr (.inl ⟨by omega, by omega⟩))
  have he : ∀ s, s < n → ∀ i, gI m' (p + 8 + 2 * s) i = gI m (p + 8 + 2 * s) i := fun s hs i => hb _ _ (.inr (.inl ⟨by omega, by omega⟩))
  have hw : ∀ s, s < c → ∀ i, gI m' (p + 31 + 2 * s) i = gI m (p + 31 + 2 * s) i := fun s hs i => hb _ _ (.inr (.inl ⟨by omega, by omega⟩))
  have ht : ∀ s, s < c → ∀ i, gI m' (p + 31 + 2 * s + 1) i = gI m (p + 31 + 2 * s + 1) i := fun s hs i => hb _ _ (.inr (.inl ⟨by omega, by omega⟩))
  have hA : ∀ f, f ≤ 13 → ∀ i, off f * k ≤ i → gI m' (A + f) i = gI m (A + f) i := fun f hf i hi => hb _ _ (.inr (.inr ⟨by omega, by omega, by rw [Nat.add_sub_cancel_left]; exact hi⟩))
  have o7 : ∀ f, f ≤ 6 → ∀ s, gI m' (A + f) (12 * k + s) = gI m (A + f) (12 * k + s) := fun f hf s => hA f (by omega) _ (by unfold off; rw [if_pos hf]; omega)
  have o16 : ∀ f, 7 ≤ f → f ≤ 10 → ∀ s, gI m' (A + f) (16 * k + s) = gI m (A + f) (16 * k + s) := fun f hf hg s => hA f (by omega) _ (by unfold off; rw [if_neg (by omega), if_pos hg]; omega)
  refine ⟨fun s q => ?_, ?_, fun i q => ?_, fun j q => ?_, fun s q => ⟨fun i qi => ?_, fun i q1 q2 => ?_⟩⟩
  · have := h1 s q
    have o0 : gI m' A (12 * k + s) = gI m A (12 * k + s) := o7 0 (by omega) s
    simp only [WfS, EqS] at this ⊢
    simp only [hs s q, o0, o7 1 (by omega), o7 2 (by omega), o7 3 (by omega), o7 4 (by omega), o7 5 (by omega), o7 6 (by omega)]
    exact this
  · rw [hsum_congr (g := fun s => gI m (p + 7 + 2 * s) 3) (fun s q => hs s q 3)]
    exact h2
  · have := h3 i q
    have o11 : ∀ j, gI m' (A + 11) (80 * k + 5 * i + j) = gI m (A + 11) (80 * k + 5 * i + j) := fun j => hA 11 (by omega) _ (show 80 * k ≤ 80 * k + 5 * i + j by omega)
    simp only [WfC, EqC] at this ⊢
    simp only [hw i q, ht i q, o16 7 (by omega) (by omega), o16 8 (by omega) (by omega), o16 9 (by omega) (by omega), o16 10 (by omega) (by omega), o11]
    exact this
  · rw [hA 12 (by omega) _ (show 5 * k ≤ 5 * k + j by omega), hb (p + 3) j (.inl rfl)]
    exact h4 j q
  · rw [hA 13 (by omega) _ (show 192 * k ≤ 192 * k + 16 * s + i by omega), he s q]
    exact (h5 s q).1 i qi
  · rw [he s q]
    exact (h5 s q).2 i q1 q2
/-- where the class's law at w stands, its scratch (letters, pile, truth, value) apart -/
def FL (w q i : Nat) : Prop := (q = w ∧ i = 10) ∨ (1 ≤ q - w ∧ w < q ∧ q ≤ w + 8 ∧ q ≠ w + 7)
theorem LwR_frame {m m' : Mm} (hr : gR m' 1 9 = gR m 1 9) (hC : ∀ q i, FL (gR m 1 9) q i → gI m' q i = gI m q i) (h22 : gI m' 225 22 = gI m 225 22) (hD : ∀ q i, 241 ≤ q → q ≤ 246 → gI m' q i = gI m q i) (h : LwR m) : LwR m' := by
  unfold LwR at h ⊢
  have e1 : (fun k i => if 1 ≤ k ∧ k ≤ 8 ∧ k ≠ 7 then gI m' (gR m 1 9 + k) i else 0) = (fun k i => if 1 ≤ k ∧ k ≤ 8 ∧ k ≠ 7 then gI m (gR m 1 9 + k) i else 0) := by
    funext k i
    by_cases hk : 1 ≤ k ∧ k ≤ 8 ∧ k ≠ 7
    · rw [if_pos hk, if_pos hk]
      exact hC _ _ (.inr ⟨by omega, by omega, by omega, by omega⟩)
    · rw [if_neg hk, if_neg hk]
  have e2 : (fun k i => if k ≤ 5 then gI m' (241 + k) i else 0) = (fun k i => if k ≤ 5 then gI m (241 + k) i else 0) := by
    funext k i
    by_cases hk : k ≤ 5
    · rw [if_pos hk, if_pos hk]
      exact hD _ _ (by omega) (by omega)
    · rw [if_neg hk, if_neg hk]
  rw [hr, h22, hC _ 10 (.inl ⟨rfl, rfl⟩), e1, e2]
  exact h
/-- what a call may leave alone that changes the meadow 'now' alone -/
def Kp (q i : Nat) : Prop := (q = 1 ∧ i = 11) ∨ (q = 225 ∧ (i = 77 ∨ i = 1 ∨ i = 22)) ∨ (65 ≤ q ∧ q ≤ 127) ∨ (257 ≤ q ∧ q ≤ 270 ∧ off (q - 257) ≤ i) ∨ (q = 271 ∧ 6 ≤ i) ∨ (q = 191 ∧ i = 1) ∨ q = 192 ∨ q = 226 ∨ (205 ≤ q ∧ q ≤ 224) ∨ (241 ≤ q ∧ q ≤ 246)
theorem Rel_now {m m' : Mm} (hR : Rel m) (hS : Sh m') (hr : gR m' 1 9 = gR m 1 9 ∧ gR m' 1 10 = gR m 1 10) (hk : ∀ q i, Kp q i → gI m' q i = gI m q i) (hn : RM m' 2 227 0 (cnum m')) : Rel m' := by
  obtain ⟨-, h2, -, h4, h5, h6, h7⟩ := hR
  refine ⟨hS, ?_, hn, ?_, fun q => ?_, ?_, ?_⟩
  · unfold LawPl
    rw [hr.1, hr.2]
    exact h2
  · rw [hk 1 11 (.inl ⟨rfl, rfl⟩), hk 225 77 (.inr (.inl ⟨rfl, .inl rfl⟩))]
    exact h4
  · rw [hk 1 11 (.inl ⟨rfl, rfl⟩)] at q
    obtain ⟨n, c, hs, hb⟩ := h5 q
    have e : ∀ j, knum m' 1 j = knum m 1 j := fun j => hk 271 _ (.inr (.inr (.inr (.inr (.inl ⟨rfl, by omega⟩)))))
    have e65 : ∀ i, gI m' 65 i = gI m 65 i := fun i => hk 65 i (.inr (.inr (.inl ⟨by omega, by omega⟩)))
    refine ⟨n, c, ?_, RMb_frame hs.1.1 hs.1.2 (fun q i hf => hk q i ?_) hb⟩
    · unfold RMs at hs ⊢
      simp only [e, e65]
      exact hs
    · rcases hf with hf | hf | hf
      · exact .inr (.inr (.inl ⟨by omega, by omega⟩))
      · exact .inr (.inr (.inl ⟨by omega, by omega⟩))
      · exact .inr (.inr (.inr (.inl ⟨by omega, by omega, by omega⟩)))
  · obtain ⟨t, t1, t2, t3, t4⟩ := h6
    have e192 : ∀ i, gI m' 192 i = gI m 192 i := fun i => hk _ _ (.inr (.inr (.inr (.inr (.inr (.inr (.inl rfl)))))))
    have e226 : ∀ i, gI m' 226 i = gI m 226 i := fun i => hk _ _ (.inr (.inr (.inr (.inr (.inr (.inr (.inr (.inl rfl))))))))
    refine ⟨t, t1, ?_, ?_, fun i hi => ?_⟩
    · rw [hk 191 1 (.inr (.inr (.inr (.inr (.inr (.inl ⟨rfl, rfl⟩))))))]
      exact t2
    · rw [hk 225 1 (.inr (.inl ⟨rfl, .inr (.inl rfl)⟩))]
      exact t3
    · rw [e192, e226]
      exact t4 i hi
  · refine LwR_frame hr.1 (fun q i hf => hk q i ?_) (hk 225 22 (.inr (.inl ⟨rfl, .inr (.inr rfl)⟩))) (fun q i a b => hk q i (.inr (.inr (.inr (.inr (.inr (.inr (.inr (.inr (.inr ⟨a, b⟩)))))))))) h7
    have hp : gR m 1 9 = 205 ∨ gR m 1 9 = 215 := by rcases h2 with h | h <;> simp [h.1]
    refine .inr (.inr (.inr (.inr (.inr (.inr (.inr (.inr (.inl ?_))))))))
    rcases hf with ⟨a, -⟩ | ⟨-, b, c, -⟩ <;> rcases hp with e | e <;> omega

/-! ===== a meadow apart from the memory: a j i is the i-th of the j-th place ===== -/
def up (a : Nat → Nat → Int32) (j i : Nat) (v : Int32) : Nat → Nat → Int32 := fun x y => if x = j ∧ y = i then v else a x y
/-- the places 4, 5, 6 (where cows ate, amounts, looks) don't count -/
def Md (m : Mm) (p : Nat) (a : Nat → Nat → Int32) : Prop := ∀ j i, j < 63 → (j < 4 ∨ 6 < j) → gI m (p + j) i = a j i
def inM (p q : Nat) : Prop := p ≤ q ∧ q < p + 63 ∧ (q < p + 4 ∨ p + 6 < q)
theorem up_same (a : Nat → Nat → Int32) (j i : Nat) (v : Int32) : up a j i v j i = v := by simp [up]
theorem up_ne (a : Nat → Nat → Int32) {j i x y : Nat} (v : Int32) (h : ¬ (x = j ∧ y = i)) : up a j i v x y = a x y := if_neg h
theorem Md_vw (m : Mm) (p : Nat) : Md m p (fun j i => gI m (p + j) i) := fun _ _ _ _ => rfl
theorem Md_frame {m m' : Mm} {p : Nat} {a : Nat → Nat → Int32} (h : Md m p a) (hf : ∀ q i, inM p q → gI m' q i = gI m q i) : Md m' p a := fun j i h1 h2 => (hf (p + j) i ⟨by omega, by omega, by omega⟩).trans (h j i h1 h2)
theorem Md_up {m : Mm} {p : Nat} {a : Nat → Nat → Int32} (h : Md m p a) (j i : Nat) (v : Int32) : Md (sI m (p + j) i v) p (up a j i v) := fun x y h1 h2 => by
  rw [gI_sI]
  unfold up
  by_cases q : x = j ∧ y = i
  · rw [if_pos q, if_pos ⟨by omega, q.2⟩]
  · rw [if_neg q, if_neg (fun z => q ⟨by omega, z.2⟩)]
    exact h x y h1 h2
theorem Md_at {m : Mm} {p : Nat} {a : Nat → Nat → Int32} (h : Md m p a) {j q i : Nat} (hj : j < 63) (h4 : j < 4 ∨ 6 < j) (hq : q = p + j) : gI m q i = a j i := by
  subst hq
  exact h j i hj h4
/-- a stack, a cow, the numbers, as they may be -/
def wS (f : Nat → Int32) : Prop := (∃ x, x ≤ 9 ∧ f 0 = nI x) ∧ (∃ y, y ≤ 9 ∧ f 1 = nI y) ∧ (∃ c, c ≤ 4 ∧ f 2 = nI c) ∧ (∃ h, h < 2 ^ 31 ∧ f 3 = nI h) ∧ (∃ v, v ≤ 99 ∧ f 4 = nI v) ∧ (∃ w, w ≤ 99 ∧ f 5 = nI w) ∧ (∃ t, t ≤ 598 ∧ f 6 = nI t ∧ (f 7 = 1 → t ≤ 499)) ∧ (f 7 = 0 ∨ f 7 = 1)
def wC (f t : Nat → Int32) : Prop := (∃ x, x ≤ 9 ∧ f 0 = nI x) ∧ (∃ y, y ≤ 9 ∧ f 1 = nI y) ∧ (f 2 = 1 ∨ f 2 = 9) ∧ (∃ u, 1 ≤ u ∧ u ≤ 9 ∧ f 3 = nI u) ∧ (f 4 = -2 ∨ ∃ c, c ≤ 4 ∧ f 4 = nI c) ∧ ∀ j, j < 5 → -9 ≤ (t j).toInt ∧ (t j).toInt ≤ 9
def wN (f : Nat → Int32) (n c : Nat) : Prop := (n ≤ 12 ∧ c ≤ 16) ∧ f 6 = nI n ∧ f 7 = nI c ∧ ((f 8 = -1 ∧ f 9 = -1) ∨ ∃ s, s < n ∧ f 8 = nI s) ∧ ∃ x, x < 65536 ∧ f 11 = nI x
def WfA (a : Nat → Nat → Int32) (n c : Nat) : Prop := wN (a 0) n c ∧ (∀ s, s < n → wS (a (7 + 2 * s))) ∧ hsum (fun s => a (7 + 2 * s) 3) n ≤ 999 * n ∧ (∀ i, i < c → wC (a (31 + 2 * i)) (a (32 + 2 * i))) ∧ ∀ s, s < n → ∀ i, c ≤ i → i < 16 → a (8 + 2 * s) i = 0
/-- a stack, a cow, the numbers, in the other's rows -/
def eS (f : Nat → Int32) (r : Nat → Nat → Int32) (i : Nat) : Prop := r 0 i = 10 * f 1 + f 0 ∧ r 1 i = f 2 ∧ r 2 i = f 3 ∧ r 3 i = f 4 ∧ r 4 i = f 5 ∧ r 5 i = f 6 ∧ r 6 i = f 7
def eC (f t : Nat → Int32) (r : Nat → Nat → Int32) (i u : Nat) : Prop := r 7 i = 10 * f 1 + f 0 ∧ r 8 i = f 2 ∧ r 9 i = f 3 ∧ r 10 i = f 4 ∧ ∀ j, j < 5 → r 11 (u + j) = t j
def eN (f num : Nat → Int32) : Prop := num 0 = f 6 ∧ num 1 = f 7 ∧ num 2 = f 10 ∧ num 3 = f 8 ∧ (f 8 ≠ -1 → num 4 = f 9) ∧ num 5 = f 11
/-- d: by how much the other's counts are more -/
def EqA (a r : Nat → Nat → Int32) (k n c : Nat) (d : Nat → Int32) : Prop := (∀ s, s < n → eS (a (7 + 2 * s)) r (12 * k + s)) ∧ (∀ i, i < c → eC (a (31 + 2 * i)) (a (32 + 2 * i)) r (16 * k + i) (80 * k + 5 * i)) ∧ (∀ j, j < 5 → r 12 (5 * k + j) = a 3 j + d j) ∧ ∀ s, s < n → ∀ i, i < c → r 13 (192 * k + 16 * s + i) = a (8 + 2 * s) i
def rws (m : Mm) (A : Nat) : Nat → Nat → Int32 := fun f i => gI m (A + f) i
def d0 : Nat → Int32 := fun _ => 0
/-- what the memory says of a meadow, and what is said of it apart -/
theorem RMn_of {m : Mm} {p A k n c : Nat} {num : Nat → Int32} {a : Nat → Nat → Int32} (hM : Md m p a) (hW : WfA a n c) (hE : EqA a (rws m A) k n c d0) (hN : eN (a 0) num) : RMn m p A k num n c := by
  obtain ⟨⟨⟨w1, w2⟩, w3, w4, w5, x, w6, w7⟩, w8, w9, w10, w11⟩ := hW
  obtain ⟨e1, e2, e3, e4⟩ := hE
  obtain ⟨n0, n1, n2, n3, n4, n5⟩ := hN
  have hp : ∀ i, gI m p i = a 0 i := fun i => hM 0 i (by omega) (by omega)
  have hs : ∀ s, s < n → ∀ i, gI m (p + 7 + 2 * s) i = a (7 + 2 * s) i := fun s hs i => Md_at hM (by omega) (by omega) (by omega)
  have he : ∀ s, s < n → ∀ i, gI m (p + 8 + 2 * s) i = a (8 + 2 * s) i := fun s hs i => Md_at hM (by omega) (by omega) (by omega)
  have hc : ∀ s, s < c → ∀ i, gI m (p + 31 + 2 * s) i = a (31 + 2 * s) i := fun s hs i => Md_at hM (by omega) (by omega) (by omega)
  have ht : ∀ s, s < c → ∀ i, gI m (p + 31 + 2 * s + 1) i = a (32 + 2 * s) i := fun s hs i => Md_at hM (by omega) (by omega) (by omega)
  have h3 : ∀ i, gI m (p + 3) i = a 3 i := fun i => hM 3 i (by omega) (by omega)
  refine ⟨⟨⟨w1, w2⟩, ⟨(hp 6).trans w3, n0.trans w3⟩, ⟨(hp 7).trans w4, n1.trans w4⟩, (hp 10).trans n2.symm, (hp 8).trans n3.symm, ?_, (hp 11).trans n5.symm, ⟨x, w6, n5.trans w7⟩⟩, fun s q => ⟨?_, ?_⟩, ?_, fun i q => ⟨?_, ?_⟩, fun j q => ?_, fun s q => ⟨fun i qi => ?_, fun i q1 q2 => ?_⟩⟩
  · rcases w5 with ⟨v1, v2⟩ | ⟨s, v1, v2⟩
    · exact .inl ⟨n3.trans v1, (hp 9).trans v2⟩
    · exact .inr ⟨(hp 9).trans (n4 (by rw [v2]; exact nI_ne_m1 (by omega))).symm, s, v1, n3.trans v2⟩
  · have := w8 s q
    simp only [WfS, hs s q]
    exact this
  · have := e1 s q
    simp only [EqS, hs s q]
    exact this
  · rw [hsum_congr (g := fun s => a (7 + 2 * s) 3) (fun s q => hs s q 3)]
    exact w9
  · have := w10 i q
    simp only [WfC, hc i q, ht i q]
    exact this
  · have := e2 i q
    simp only [EqC, hc i q, ht i q]
    exact this
  · rw [h3]
    have := e3 j q
    rw [d0, Int32.add_zero] at this
    exact this
  · rw [he s q]
    exact e4 s q i qi
  · rw [he s q]
    exact w11 s q i q1 q2
theorem RMn_to {m : Mm} {p A k n c : Nat} {num : Nat → Int32} {a : Nat → Nat → Int32} (hM : Md m p a) (h : RMn m p A k num n c) : WfA a n c ∧ EqA a (rws m A) k n c d0 ∧ eN (a 0) num := by
  obtain ⟨⟨⟨w1, w2⟩, ⟨w3, n0⟩, ⟨w4, n1⟩, n2, n3, w5, n5, x, w6, w7⟩, b1, b2, b3, b4, b5⟩ := h
  have hp : ∀ i, gI m p i = a 0 i := fun i => hM 0 i (by omega) (by omega)
  have hs : ∀ s, s < n → ∀ i, gI m (p + 7 + 2 * s) i = a (7 + 2 * s) i := fun s hs i => Md_at hM (by omega) (by omega) (by omega)
  have he : ∀ s, s < n → ∀ i, gI m (p + 8 + 2 * s) i = a (8 + 2 * s) i := fun s hs i => Md_at hM (by omega) (by omega) (by omega)
  have hc : ∀ s, s < c → ∀ i, gI m (p + 31 + 2 * s) i = a (31 + 2 * s) i := fun s hs i => Md_at hM (by omega) (by omega) (by omega)
  have ht : ∀ s, s < c → ∀ i, gI m (p + 31 + 2 * s + 1) i = a (32 + 2 * s) i := fun s hs i => Md_at hM (by omega) (by omega) (by omega)
  have h3 : ∀ i, gI m (p + 3) i = a 3 i := fun i => hM 3 i (by omega) (by omega)
  rw [hp] at w3 w4 n2 n3 n5
  refine ⟨⟨⟨⟨w1, w2⟩, w3, w4, ?_, ⟨x, w6, n5.trans w7⟩⟩, fun s q => ?_, ?_, fun i q => ?_, fun s q i q1 q2 => ?_⟩, ⟨fun s q => ?_, fun i q => ?_, fun j q => ?_, fun s q i q1 => ?_⟩, n0.trans w3.symm, n1.trans w4.symm, n2.symm, n3.symm, fun q => ?_, n5.symm⟩
  · rw [hp] at w5
    rcases w5 with ⟨v1, v2⟩ | ⟨v0, s, v1, v2⟩
    · exact .inl ⟨n3.trans v1, v2⟩
    · exact .inr ⟨s, v1, n3.trans v2⟩
  · have := (b1 s q).1
    simp only [WfS, hs s q] at this
    exact this
  · rw [hsum_congr (g := fun s => a (7 + 2 * s) 3) (fun s q => hs s q 3)] at b2
    exact b2
  · have := (b3 i q).1
    simp only [WfC, hc i q, ht i q] at this
    exact this
  · have := (b5 s q).2 i q1 q2
    rw [he s q] at this
    exact this
  · have := (b1 s q).2
    simp only [EqS, hs s q] at this
    exact this
  · have := (b3 i q).2
    simp only [EqC, hc i q, ht i q] at this
    exact this
  · have := b4 j q
    rw [h3] at this
    rw [d0, Int32.add_zero]
    exact this
  · have := (b5 s q).1 i q1
    rw [he s q] at this
    exact this
  · rw [hp] at w5
    rcases w5 with ⟨v1, v2⟩ | ⟨v0, -⟩
    · exact absurd (n3.trans v1) q
    · exact v0.symm

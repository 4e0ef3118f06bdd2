/-! ===== the two sides beside a meadow apart ===== -/
theorem Fr_refl (P : Nat → Nat → Prop) (m : Mm) : Fr P m m := ⟨rfl, fun _ _ _ => rfl⟩
theorem Fr_trans {P : Nat → Nat → Prop} {m m1 m2 : Mm} (h1 : Fr P m m1) (h2 : Fr P m1 m2) : Fr P m m2 := ⟨h2.1.trans h1.1, fun q i h => (h2.2 q i h).trans (h1.2 q i h)⟩
theorem Fr_mono {P Q : Nat → Nat → Prop} {m m' : Mm} (h : Fr P m m') (hPQ : ∀ q i, P q i → Q q i) : Fr Q m m' := ⟨h.1, fun q i z => h.2 q i (fun y => z (hPQ q i y))⟩
theorem Fr_sI {P : Nat → Nat → Prop} {m m1 : Mm} (h : Fr P m m1) {q i : Nat} (hP : P q i) (v : Int32) : Fr P m (sI m1 q i v) := ⟨h.1, fun x y z => by
  have hn : ¬ (x = q ∧ y = i) := by
    rintro ⟨rfl, rfl⟩
    exact z hP
  rw [gI_sI, if_neg hn]
  exact h.2 x y z⟩
theorem Fr_Sh {P : Nat → Nat → Prop} {m m' : Mm} (h : Fr P m m') (hS : Sh m) : Sh m' := by
  have e : m' = uI m m'.1 := by unfold uI; rw [← h.1]
  rw [e]
  exact hS
theorem Fr_R {P : Nat → Nat → Prop} {m m' : Mm} (h : Fr P m m') (q i : Nat) : gR m' q i = gR m q i := by unfold gR; rw [h.1]
theorem Md_up' {m : Mm} {p : Nat} {a : Nat → Nat → Int32} (h : Md m p a) {q j : Nat} (i : Nat) (v : Int32) (hq : q = p + j) : Md (sI m q i v) p (up a j i v) := by
  subst hq
  exact Md_up h j i v
theorem Md_ne {m : Mm} {p : Nat} {a : Nat → Nat → Int32} (h : Md m p a) {q : Nat} (i : Nat) (v : Int32) (hq : ¬ inM p q) : Md (sI m q i v) p a := Md_frame h (fun x y hx => by
  rw [gI_sI, if_neg]
  rintro ⟨rfl, -⟩
  exact hq hx)
theorem up_comm (a : Nat → Nat → Int32) {j i j' i' : Nat} (v w : Int32) (h : ¬ (j = j' ∧ i = i')) : up (up a j i v) j' i' w = up (up a j' i' w) j i v := by
  funext x y
  unfold up
  by_cases h1 : x = j ∧ y = i
  · rw [if_pos h1, if_neg (fun z => h ⟨h1.1.symm.trans z.1, h1.2.symm.trans z.2⟩), if_pos h1]
  · rw [if_neg h1, if_neg h1]
/-- the other side's now -/
def MM (m : Mm) (a : Nat → Nat → Int32) (n c : Nat) (d : Nat → Int32) : Prop := EqA a (rws m 227) 0 n c d ∧ eN (a 0) (cnum m)
theorem rws_sI (m : Mm) (f i : Nat) (v : Int32) : rws (sI m (227 + f) i v) 227 = up (rws m 227) f i v := by
  funext x y
  unfold rws up
  rw [gI_sI]
  by_cases h : x = f ∧ y = i
  · rw [if_pos h, if_pos ⟨by omega, h.2⟩]
  · rw [if_neg h, if_neg (fun z => h ⟨by omega, z.2⟩)]
theorem cnum_sI (m : Mm) (f i : Nat) (v : Int32) : cnum (sI m (227 + f) i v) = cnum m := by
  funext j
  unfold cnum
  rw [gI_sI, if_neg (by omega)]
theorem MM_frame {m m' : Mm} {a : Nat → Nat → Int32} {n c : Nat} {d : Nat → Int32} (h : MM m a n c d) (hf : ∀ q i, (227 ≤ q ∧ q ≤ 240) ∨ (q = 225 ∧ 2 ≤ i ∧ i ≤ 7) → gI m' q i = gI m q i) : MM m' a n c d := by
  have e1 : ∀ j, cnum m' j = cnum m j := fun j => hf 225 _ (.inr ⟨rfl, by (repeat' split) <;> omega, by (repeat' split) <;> omega⟩)
  have e2 : ∀ f, f ≤ 13 → ∀ i, rws m' 227 f i = rws m 227 f i := fun f hf' i => hf (227 + f) i (.inl ⟨by omega, by omega⟩)
  obtain ⟨⟨h1, h2, h3, h4⟩, h5⟩ := h
  refine ⟨⟨fun s hs => ?_, fun i hi => ?_, fun j hj => ?_, fun s hs i hi => ?_⟩, ?_⟩
  · have := h1 s hs
    unfold eS at this ⊢
    simp only [e2 0 (by omega), e2 1 (by omega), e2 2 (by omega), e2 3 (by omega), e2 4 (by omega), e2 5 (by omega), e2 6 (by omega)]
    exact this
  · have := h2 i hi
    unfold eC at this ⊢
    simp only [e2 7 (by omega), e2 8 (by omega), e2 9 (by omega), e2 10 (by omega), e2 11 (by omega)]
    exact this
  · rw [e2 12 (by omega)]; exact h3 j hj
  · rw [e2 13 (by omega)]; exact h4 s hs i hi
  · unfold eN at h5 ⊢
    simp only [e1]
    exact h5
/-- a number of a stack: colour, hay, clover, damp, heat, whether it stands -/
theorem MM_S {m : Mm} {a : Nat → Nat → Int32} {n c : Nat} {d : Nat → Int32} (h : MM m a n c d) {s f : Nat} (hs : s < n) (hn : n ≤ 12) (hf : 1 ≤ f ∧ f ≤ 6) (v : Int32) : MM (sI m (227 + f) s v) (up a (7 + 2 * s) (f + 1) v) n c d := by
  obtain ⟨⟨h1, h2, h3, h4⟩, h5⟩ := h
  refine ⟨?_, ?_⟩
  · rw [rws_sI]
    refine ⟨fun t ht => ?_, fun i hi => ?_, fun j hj => ?_, fun t ht i hi => ?_⟩
    · have := h1 t ht
      unfold eS at this ⊢
      by_cases q : t = s
      · subst q
        have e1 : ∀ g, up (rws m 227) f t v g (12 * 0 + t) = if g = f then v else rws m 227 g (12 * 0 + t) := fun g => by
          unfold up
          by_cases z : g = f
          · rw [if_pos ⟨z, by omega⟩, if_pos z]
          · rw [if_neg (fun y => z y.1), if_neg z]
        have e2 : ∀ g, up a (7 + 2 * t) (f + 1) v (7 + 2 * t) g = if g = f + 1 then v else a (7 + 2 * t) g := fun g => by
          unfold up
          by_cases z : g = f + 1
          · rw [if_pos ⟨rfl, z⟩, if_pos z]
          · rw [if_neg (fun y => z y.2), if_neg z]
        obtain ⟨q0, q1, q2, q3, q4, q5, q6⟩ := this
        have : f = 1 ∨ f = 2 ∨ f = 3 ∨ f = 4 ∨ f = 5 ∨ f = 6 := by omega
        rcases this with rfl | rfl | rfl | rfl | rfl | rfl <;> simp only [e1, e2] <;> exact ⟨by first | exact q0 | rfl, by first | exact q1 | rfl, by first | exact q2 | rfl, by first | exact q3 | rfl, by first | exact q4 | rfl, by first | exact q5 | rfl, by first | exact q6 | rfl⟩
      · have e1 : ∀ g, up (rws m 227) f s v g (12 * 0 + t) = rws m 227 g (12 * 0 + t) := fun g => up_ne _ _ (by omega)
        have e2 : ∀ g, up a (7 + 2 * s) (f + 1) v (7 + 2 * t) g = a (7 + 2 * t) g := fun g => up_ne _ _ (by omega)
        simp only [e1, e2]
        exact this
    · have := h2 i hi
      unfold eC at this ⊢
      have e1 : ∀ g, 7 ≤ g → ∀ y, up (rws m 227) f s v g y = rws m 227 g y := fun g hg y => up_ne _ _ (by omega)
      have e2 : ∀ g, up a (7 + 2 * s) (f + 1) v (31 + 2 * i) g = a (31 + 2 * i) g := fun g => up_ne _ _ (by omega)
      have e3 : ∀ g, up a (7 + 2 * s) (f + 1) v (32 + 2 * i) g = a (32 + 2 * i) g := fun g => up_ne _ _ (by omega)
      simp only [e1 7 (by omega), e1 8 (by omega), e1 9 (by omega), e1 10 (by omega), e1 11 (by omega), e2, e3]
      exact this
    · rw [up_ne _ _ (by omega), up_ne _ _ (by omega)]
      exact h3 j hj
    · rw [up_ne _ _ (by omega), up_ne _ _ (by omega)]
      exact h4 t ht i hi
  · rw [cnum_sI]
    have e : ∀ g, up a (7 + 2 * s) (f + 1) v 0 g = a 0 g := fun g => up_ne _ _ (by omega)
    unfold eN at h5 ⊢
    simp only [e]
    exact h5
/-- a cow's last vote -/
theorem MM_V {m : Mm} {a : Nat → Nat → Int32} {n c : Nat} {d : Nat → Int32} (h : MM m a n c d) {i : Nat} (hi : i < c) (hn : n ≤ 12) (hc : c ≤ 16) (v : Int32) : MM (sI m 237 i v) (up a (31 + 2 * i) 4 v) n c d := by
  obtain ⟨⟨h1, h2, h3, h4⟩, h5⟩ := h
  have er : rws (sI m 237 i v) 227 = up (rws m 227) 10 i v := rws_sI m 10 i v
  have ec : cnum (sI m 237 i v) = cnum m := cnum_sI m 10 i v
  refine ⟨?_, ?_⟩
  · rw [er]
    refine ⟨fun t ht => ?_, fun j hj => ?_, fun j hj => ?_, fun t ht j hj => ?_⟩
    · have := h1 t ht
      unfold eS at this ⊢
      have e1 : ∀ g, g ≤ 6 → ∀ y, up (rws m 227) 10 i v g y = rws m 227 g y := fun g hg y => up_ne _ _ (by omega)
      have e2 : ∀ g, up a (31 + 2 * i) 4 v (7 + 2 * t) g = a (7 + 2 * t) g := fun g => up_ne _ _ (by omega)
      simp only [e1 0 (by omega), e1 1 (by omega), e1 2 (by omega), e1 3 (by omega), e1 4 (by omega), e1 5 (by omega), e1 6 (by omega), e2]
      exact this
    · have := h2 j hj
      unfold eC at this ⊢
      have e1 : ∀ g, g ≠ 10 → ∀ y, up (rws m 227) 10 i v g y = rws m 227 g y := fun g hg y => up_ne _ _ (by omega)
      have e2 : ∀ g, g ≠ 4 → up a (31 + 2 * i) 4 v (31 + 2 * j) g = a (31 + 2 * j) g := fun g hg => up_ne _ _ (by omega)
      have e3 : ∀ g, up a (31 + 2 * i) 4 v (32 + 2 * j) g = a (32 + 2 * j) g := fun g => up_ne _ _ (by omega)
      simp only [e1 7 (by omega), e1 8 (by omega), e1 9 (by omega), e1 11 (by omega), e2 0 (by omega), e2 1 (by omega), e2 2 (by omega), e2 3 (by omega), e3]
      obtain ⟨q1, q2, q3, q4, q5⟩ := this
      refine ⟨q1, q2, q3, ?_, q5⟩
      by_cases q : j = i
      · subst q
        unfold up
        rw [if_pos ⟨rfl, by omega⟩, if_pos ⟨rfl, rfl⟩]
      · rw [up_ne _ _ (by omega), up_ne _ _ (by omega)]
        exact q4
    · rw [up_ne _ _ (by omega), up_ne _ _ (by omega)]
      exact h3 j hj
    · rw [up_ne _ _ (by omega), up_ne _ _ (by omega)]
      exact h4 t ht j hj
  · rw [ec]
    have e : ∀ g, up a (31 + 2 * i) 4 v 0 g = a 0 g := fun g => up_ne _ _ (by omega)
    unfold eN at h5 ⊢
    simp only [e]
    exact h5
/-- a count: both have v more -/
theorem MM_K {m : Mm} {a : Nat → Nat → Int32} {n c : Nat} {d : Nat → Int32} (h : MM m a n c d) {k : Nat} (hk : k < 5) (v : Int32) : MM (sI m 239 k (gI m 239 k + v)) (up a 3 k (a 3 k + v)) n c d := by
  obtain ⟨⟨h1, h2, h3, h4⟩, h5⟩ := h
  have er : rws (sI m 239 k (gI m 239 k + v)) 227 = up (rws m 227) 12 k (gI m 239 k + v) := rws_sI m 12 k _
  have ec : cnum (sI m 239 k (gI m 239 k + v)) = cnum m := cnum_sI m 12 k _
  refine ⟨?_, ?_⟩
  · rw [er]
    refine ⟨fun t ht => ?_, fun j hj => ?_, fun j hj => ?_, fun t ht j hj => ?_⟩
    · have := h1 t ht
      unfold eS at this ⊢
      have e1 : ∀ g, g ≤ 6 → ∀ y, up (rws m 227) 12 k (gI m 239 k + v) g y = rws m 227 g y := fun g hg y => up_ne _ _ (by omega)
      have e2 : ∀ g, up a 3 k (a 3 k + v) (7 + 2 * t) g = a (7 + 2 * t) g := fun g => up_ne _ _ (by omega)
      simp only [e1 0 (by omega), e1 1 (by omega), e1 2 (by omega), e1 3 (by omega), e1 4 (by omega), e1 5 (by omega), e1 6 (by omega), e2]
      exact this
    · have := h2 j hj
      unfold eC at this ⊢
      have e1 : ∀ g, g ≠ 12 → ∀ y, up (rws m 227) 12 k (gI m 239 k + v) g y = rws m 227 g y := fun g hg y => up_ne _ _ (by omega)
      have e2 : ∀ g, up a 3 k (a 3 k + v) (31 + 2 * j) g = a (31 + 2 * j) g := fun g => up_ne _ _ (by omega)
      have e3 : ∀ g, up a 3 k (a 3 k + v) (32 + 2 * j) g = a (32 + 2 * j) g := fun g => up_ne _ _ (by omega)
      simp only [e1 7 (by omega), e1 8 (by omega), e1 9 (by omega), e1 10 (by omega), e1 11 (by omega), e2, e3]
      exact this
    · by_cases q : j = k
      · subst q
        have hh := h3 j hj
        rw [Nat.mul_zero, Nat.zero_add] at hh ⊢
        have hh : gI m 239 j = a 3 j + d j := hh
        rw [up_same, up_same, hh, Int32.add_assoc, Int32.add_assoc, Int32.add_comm (d j)]
      · rw [up_ne _ _ (by omega), up_ne _ _ (by omega)]
        exact h3 j hj
    · rw [up_ne _ _ (by omega), up_ne _ _ (by omega)]
      exact h4 t ht j hj
  · rw [ec]
    have e : ∀ g, up a 3 k (a 3 k + v) 0 g = a 0 g := fun g => up_ne _ _ (by omega)
    unfold eN at h5 ⊢
    simp only [e]
    exact h5
/-- what was eaten -/
theorem MM_E {m : Mm} {a : Nat → Nat → Int32} {n c : Nat} {d : Nat → Int32} (h : MM m a n c d) {s i : Nat} (hs : s < n) (hn : n ≤ 12) (hi : i < c) (hc : c ≤ 16) (v : Int32) : MM (sI m 240 (16 * s + i) v) (up a (8 + 2 * s) i v) n c d := by
  obtain ⟨⟨h1, h2, h3, h4⟩, h5⟩ := h
  have er : rws (sI m 240 (16 * s + i) v) 227 = up (rws m 227) 13 (16 * s + i) v := rws_sI m 13 _ v
  have ec : cnum (sI m 240 (16 * s + i) v) = cnum m := cnum_sI m 13 _ v
  refine ⟨?_, ?_⟩
  · rw [er]
    refine ⟨fun t ht => ?_, fun j hj => ?_, fun j hj => ?_, fun t ht j hj => ?_⟩
    · have := h1 t ht
      unfold eS at this ⊢
      have e1 : ∀ g, g ≤ 6 → ∀ y, up (rws m 227) 13 (16 * s + i) v g y = rws m 227 g y := fun g hg y => up_ne _ _ (by omega)
      have e2 : ∀ g, up a (8 + 2 * s) i v (7 + 2 * t) g = a (7 + 2 * t) g := fun g => up_ne _ _ (by omega)
      simp only [e1 0 (by omega), e1 1 (by omega), e1 2 (by omega), e1 3 (by omega), e1 4 (by omega), e1 5 (by omega), e1 6 (by omega), e2]
      exact this
    · have := h2 j hj
      unfold eC at this ⊢
      have e1 : ∀ g, g ≠ 13 → ∀ y, up (rws m 227) 13 (16 * s + i) v g y = rws m 227 g y := fun g hg y => up_ne _ _ (by omega)
      have e2 : ∀ g, up a (8 + 2 * s) i v (31 + 2 * j) g = a (31 + 2 * j) g := fun g => up_ne _ _ (by omega)
      have e3 : ∀ g, up a (8 + 2 * s) i v (32 + 2 * j) g = a (32 + 2 * j) g := fun g => up_ne _ _ (by omega)
      simp only [e1 7 (by omega), e1 8 (by omega), e1 9 (by omega), e1 10 (by omega), e1 11 (by omega), e2, e3]
      exact this
    · rw [up_ne _ _ (by omega), up_ne _ _ (by omega)]
      exact h3 j hj
    · by_cases q : t = s ∧ j = i
      · obtain ⟨rfl, rfl⟩ := q
        unfold up
        rw [if_pos ⟨rfl, by omega⟩, if_pos ⟨rfl, rfl⟩]
      · rw [up_ne _ _ (by omega), up_ne _ _ (by omega)]
        exact h4 t ht j hj
  · rw [ec]
    have e : ∀ g, up a (8 + 2 * s) i v 0 g = a 0 g := fun g => up_ne _ _ (by omega)
    unfold eN at h5 ⊢
    simp only [e]
    exact h5
/-- how much hay there is, when one stack's changes -/
theorem hsum_set (f : Nat → Int32) (v : Int32) {s : Nat} : ∀ {n : Nat}, s < n → hsum (fun x => if x = s then v else f x) n + (f s).toNatClampNeg = hsum f n + v.toNatClampNeg
  | 0, h => by omega
  | n + 1, h => by
    unfold hsum
    by_cases q : s = n
    · subst q
      rw [hsum_congr (g := f) (fun t ht => if_neg (by omega)), if_pos rfl]
      omega
    · have ih := hsum_set f v (s := s) (n := n) (by omega)
      rw [if_neg (fun z => q z.symm)]
      omega
theorem hsum_ge (f : Nat → Int32) {s : Nat} : ∀ {n : Nat}, s < n → (f s).toNatClampNeg ≤ hsum f n
  | 0, h => by omega
  | n + 1, h => by
    unfold hsum
    by_cases q : s = n
    · subst q; omega
    · have := hsum_ge f (s := s) (n := n) (by omega); omega
theorem hsum_ge2 (f : Nat → Int32) {s t : Nat} : ∀ {n : Nat}, s < t → t < n → (f s).toNatClampNeg + (f t).toNatClampNeg ≤ hsum f n
  | 0, _, h => by omega
  | n + 1, h1, h => by
    unfold hsum
    by_cases q : t = n
    · subst q
      have := hsum_ge f (s := s) (n := t) h1; omega
    · have := hsum_ge2 f (s := s) (t := t) (n := n) h1 (by omega); omega
/-- the common state, when the meadow 'now' is a on both sides and the rest is left alone -/
def keepP (q i : Nat) : Prop := inKept q i ∨ inTape q i ∨ inLaw q i
theorem Rel_ghost {m m' : Mm} (hR : Rel m) {a : Nat → Nat → Int32} {n c : Nat} (hS : Sh m') (hr : gR m' 1 9 = gR m 1 9 ∧ gR m' 1 10 = gR m 1 10) (hf : ∀ q i, keepP q i → gI m' q i = gI m q i) (hM : Md m' 2 a) (hW : WfA a n c) (hE : MM m' a n c d0) : Rel m' :=
  Rel_parts hR hS hr ⟨n, c, RMn_of hM hW hE.1 hE.2⟩ (Kept_frame (Rel_kept hR) (fun q i h => hf q i (.inl h))) (Tape_frame hR.2.2.2.2.2.1 (fun q i h => hf q i (.inr (.inl h)))) (Law_frame hR.2.1 hR.2.2.2.2.2.2 hr.1 (fun q i h => hf q i (.inr (.inr h))))
theorem ghost_of {m : Mm} (hR : Rel m) : ∃ a n c, Md m 2 a ∧ WfA a n c ∧ MM m a n c d0 := by
  obtain ⟨n, c, h⟩ := hR.2.2.1
  obtain ⟨h1, h2, h3⟩ := RMn_to (Md_vw m 2) h
  exact ⟨_, n, c, Md_vw m 2, h1, h2, h3⟩

/-! ===== what leaves a piece of the common state alone ===== -/
def inNow (q i : Nat) : Prop := (2 ≤ q ∧ q ≤ 64) ∨ (227 ≤ q ∧ q ≤ 240) ∨ (q = 225 ∧ 2 ≤ i ∧ i ≤ 7)
theorem Now_frame {m m' : Mm} (h : RM m 2 227 0 (cnum m)) (hf : ∀ q i, inNow q i → gI m' q i = gI m q i) : RM m' 2 227 0 (cnum m') := by
  obtain ⟨n, c, hs, hb⟩ := h
  have e : ∀ j, cnum m' j = cnum m j := fun j => hf 225 _ (.inr (.inr ⟨rfl, by (repeat' split) <;> omega, by (repeat' split) <;> omega⟩))
  have e2 : ∀ i, gI m' 2 i = gI m 2 i := fun i => hf 2 i (.inl ⟨by omega, by omega⟩)
  refine ⟨n, c, ?_, RMb_frame hs.1.1 hs.1.2 (fun q i hF => hf q i ?_) hb⟩
  · unfold RMs at hs ⊢
    simp only [e, e2]
    exact hs
  · unfold FB at hF
    unfold inNow
    omega
def inKept (q i : Nat) : Prop := (q = 1 ∧ i = 11) ∨ (q = 225 ∧ i = 77) ∨ (65 ≤ q ∧ q ≤ 127) ∨ (257 ≤ q ∧ q ≤ 270 ∧ off (q - 257) ≤ i) ∨ (q = 271 ∧ 6 ≤ i)
def KeptR (m : Mm) : Prop := (gI m 1 11 = gI m 225 77 ∧ (gI m 1 11 = 0 ∨ gI m 1 11 = 1)) ∧ (gI m 1 11 = 1 → RM m 65 257 1 (knum m 1))
theorem Kept_frame {m m' : Mm} (h : KeptR m) (hf : ∀ q i, inKept q i → gI m' q i = gI m q i) : KeptR m' := by
  obtain ⟨h1, h2⟩ := h
  have a1 := hf 1 11 (.inl ⟨rfl, rfl⟩)
  have a2 := hf 225 77 (.inr (.inl ⟨rfl, rfl⟩))
  refine ⟨by rw [a1, a2]; exact h1, fun q => ?_⟩
  rw [a1] at q
  obtain ⟨n, c, hs, hb⟩ := h2 q
  have e : ∀ j, knum m' 1 j = knum m 1 j := fun j => hf 271 _ (.inr (.inr (.inr (.inr ⟨rfl, by omega⟩))))
  have e65 : ∀ i, gI m' 65 i = gI m 65 i := fun i => hf 65 i (.inr (.inr (.inl ⟨by omega, by omega⟩)))
  refine ⟨n, c, ?_, RMb_frame hs.1.1 hs.1.2 (fun q i hF => hf q i ?_) hb⟩
  · unfold RMs at hs ⊢
    simp only [e, e65]
    exact hs
  · unfold FB at hF
    unfold inKept
    rw [Nat.mul_one] at hF
    omega
def inTape (q i : Nat) : Prop := (q = 191 ∧ i = 1) ∨ q = 192 ∨ (q = 225 ∧ i = 1) ∨ q = 226
theorem Tape_frame {m m' : Mm} (h : TapeR m) (hf : ∀ q i, inTape q i → gI m' q i = gI m q i) : TapeR m' := by
  obtain ⟨t, t1, t2, t3, t4⟩ := h
  refine ⟨t, t1, (hf _ _ (.inl ⟨rfl, rfl⟩)).trans t2, (hf _ _ (.inr (.inr (.inl ⟨rfl, rfl⟩)))).trans t3, fun i hi => ?_⟩
  rw [hf 192 i (.inr (.inl rfl)), hf 226 i (.inr (.inr (.inr rfl)))]
  exact t4 i hi
/-- of the two laws all but letters, pile, truth, value -/
def inLaw (q i : Nat) : Prop := (205 ≤ q ∧ q ≤ 213 ∧ q ≠ 212 ∧ (q = 205 → i = 10)) ∨ (215 ≤ q ∧ q ≤ 223 ∧ q ≠ 222 ∧ (q = 215 → i = 10)) ∨ (241 ≤ q ∧ q ≤ 246) ∨ (q = 225 ∧ i = 22)
theorem Law_frame {m m' : Mm} (hp : LawPl m) (h : LwR m) (hr : gR m' 1 9 = gR m 1 9) (hf : ∀ q i, inLaw q i → gI m' q i = gI m q i) : LwR m' := by
  refine LwR_frame hr (fun q i hF => hf q i ?_) (hf 225 22 (.inr (.inr (.inr ⟨rfl, rfl⟩)))) (fun q i a b => hf q i (.inr (.inr (.inl ⟨a, b⟩)))) h
  unfold FL at hF
  unfold inLaw
  rcases hp with ⟨e, -⟩ | ⟨e, -⟩ <;> rw [e] at hF <;> omega
theorem Rel_parts {m m' : Mm} (hR : Rel m) (hS : Sh m') (hr : gR m' 1 9 = gR m 1 9 ∧ gR m' 1 10 = gR m 1 10) (hn : RM m' 2 227 0 (cnum m')) (hk : KeptR m') (ht : TapeR m') (hl : LwR m') : Rel m' := by
  refine ⟨hS, ?_, hn, hk.1, hk.2, ht, hl⟩
  unfold LawPl
  rw [hr.1, hr.2]
  exact hR.2.1
theorem Rel_kept {m : Mm} (hR : Rel m) : KeptR m := ⟨hR.2.2.2.1, hR.2.2.2.2.1⟩
/-- only the tape has changed -/
theorem Rel_tape {m m' : Mm} (hR : Rel m) (hS : Sh m') (hr : gR m' 1 9 = gR m 1 9 ∧ gR m' 1 10 = gR m 1 10) (hf : ∀ q i, ¬ inTape q i → gI m' q i = gI m q i) (ht : TapeR m') : Rel m' := by
  refine Rel_parts hR hS hr (Now_frame hR.2.2.1 (fun q i h => hf q i ?_)) (Kept_frame (Rel_kept hR) (fun q i h => hf q i ?_)) ht (Law_frame hR.2.1 hR.2.2.2.2.2.2 hr.1 (fun q i h => hf q i ?_))
  · unfold inNow at h; unfold inTape; omega
  · unfold inKept at h; unfold inTape; omega
  · unfold inLaw at h; unfold inTape; omega
theorem PrI_ex {f g : Mm → Prop → Int32 × Mm × Prop} (h : ∀ m, Rel m → ∃ v m1 m2, (∀ o, f m o = (v, m1, o)) ∧ Sh m1 ∧ (∀ o, g m1 o = (v, m2, o)) ∧ Rel m2) : PrI Rel f g := by
  intro m o hR ho
  obtain ⟨v, m1, m2, h1, h2, h3, h4⟩ := h m hR
  rw [h1]
  refine ⟨ho, sh_225 h2, fun o' ho' => ?_⟩
  show (g m1 o').1 = v ∧ (g m1 o').2.2 ∧ Rel (g m1 o').2.1
  rw [h3]
  exact ⟨rfl, ho', h4⟩
theorem PrJ_ex {f g : Mm → Prop → Int64 × Mm × Prop} (h : ∀ m, Rel m → ∃ v m1 m2, (∀ o, f m o = (v, m1, o)) ∧ Sh m1 ∧ (∀ o, g m1 o = (v, m2, o)) ∧ Rel m2) : PrJ Rel f g := by
  intro m o hR ho
  obtain ⟨v, m1, m2, h1, h2, h3, h4⟩ := h m hR
  rw [h1]
  refine ⟨ho, sh_225 h2, fun o' ho' => ?_⟩
  show (g m1 o').1 = v ∧ (g m1 o').2.2 ∧ Rel (g m1 o').2.1
  rw [h3]
  exact ⟨rfl, ho', h4⟩

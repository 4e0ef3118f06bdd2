/-! ===== set aside, put back; keep, undo ===== -/
def sideP (k q i : Nat) : Prop := (257 ≤ q ∧ q ≤ 263 ∧ 12 * k ≤ i ∧ i < 12 * k + 12) ∨ (264 ≤ q ∧ q ≤ 267 ∧ 16 * k ≤ i ∧ i < 16 * k + 16) ∨ (q = 268 ∧ 80 * k ≤ i ∧ i < 80 * k + 80) ∨ (q = 269 ∧ 5 * k ≤ i ∧ i < 5 * k + 5) ∨ (q = 270 ∧ 192 * k ≤ i ∧ i < 192 * k + 192) ∨ (q = 271 ∧ 6 * k ≤ i ∧ i < 6 * k + 6)
def nowP (q i : Nat) : Prop := (227 ≤ q ∧ q ≤ 240) ∨ (q = 225 ∧ 2 ≤ i ∧ i ≤ 7)
theorem e_saNum {m : Mm} (h : Sh m) {k : Nat} (hk : k ≤ 1) : ∃ m', (∀ o, f_X12_setsAside_321 225 (nI k) (sI m 271 (6 * k) (gI m 225 2)) o = ((), m', o)) ∧ Fr (fun q i => q = 271 ∧ 6 * k ≤ i ∧ i < 6 * k + 6) m m' ∧ ∀ j, j < 6 → knum m' k j = cnum m j := by
  have e : ∀ j, j < 6 → (6 : Int32) * nI k + nI j = nI (6 * k + j) := fun j _ => by rw [(show (6 : Int32) * nI (k) = nI (6 * k) by rw [show (6 : Int32) = nI 6 from rfl, pk_mul]), nI_add]
  have e1 : (6 : Int32) * nI k + 1 = nI (6 * k + 1) := e 1 (by omega)
  have e2 : (6 : Int32) * nI k + 2 = nI (6 * k + 2) := e 2 (by omega)
  have e3 : (6 : Int32) * nI k + 3 = nI (6 * k + 3) := e 3 (by omega)
  have e4 : (6 : Int32) * nI k + 4 = nI (6 * k + 4) := e 4 (by omega)
  have e5 : (6 : Int32) * nI k + 5 = nI (6 * k + 5) := e 5 (by omega)
  have hin : ∀ j, j < 6 → vp_in (nI (6 * k + j)) 12 := fun j hj => vp_in_nI (by omega) (by omega)
  have hix : ∀ j, j < 6 → ix (nI (6 * k + j)) = 6 * k + j := fun j hj => ix_nI (by omega)
  refine ⟨sI (sI (sI (sI (sI (sI m 271 (6 * k) (gI m 225 2)) 271 (6 * k + 1) (gI m 225 3)) 271 (6 * k + 2) (gI m 225 4)) 271 (6 * k + 3) (gI m 225 6)) 271 (6 * k + 4) (gI m 225 7)) 271 (6 * k + 5) (gI m 225 5), fun o => ?_, ?_, fun j hj => ?_⟩
  · simp (config := {decide := true}) only [f_X12_setsAside_321, f_X12_setsAside_336, f_X12_setsAside_351, f_X12_setsAside_366, f_X12_setsAside_381, f_X12_setsAside_396, e1, e2, e3, e4, e5, hix 1 (by omega), hix 2 (by omega), hix 3 (by omega), hix 4 (by omega), hix 5 (by omega), hin 1 (by omega), hin 2 (by omega), hin 3 (by omega), hin 4 (by omega), hin 5 (by omega), gI_sI, gT_sI, gN_sI, gR_sI, shT_225 h, shR_225_66 h, shT_271 h, shN_271 h, ne_eq, not_false_eq_true, and_self, and_true, true_and, and_false, false_and, true_or, or_true, false_or, or_false, not_true_eq_false, if_false, if_true]
  · refine Fr_sI (Fr_sI (Fr_sI (Fr_sI (Fr_sI (Fr_sI (Fr_refl _ m) ?_ _) ?_ _) ?_ _) ?_ _) ?_ _) ?_ _ <;> omega
  · unfold knum cnum
    have : j = 0 ∨ j = 1 ∨ j = 2 ∨ j = 3 ∨ j = 4 ∨ j = 5 := by omega
    rcases this with rfl | rfl | rfl | rfl | rfl | rfl <;> simp [gI_sI]
theorem e_pbNum {m : Mm} (h : Sh m) {k : Nat} (hk : k ≤ 1) : ∃ m', (∀ o, f_X12_putsBack_321 225 (nI k) (sI m 225 2 (gI m 271 (6 * k))) o = ((), m', o)) ∧ Fr (fun q i => q = 225 ∧ 2 ≤ i ∧ i ≤ 7) m m' ∧ ∀ j, j < 6 → cnum m' j = knum m k j := by
  have e : ∀ j, j < 6 → (6 : Int32) * nI k + nI j = nI (6 * k + j) := fun j _ => by rw [(show (6 : Int32) * nI (k) = nI (6 * k) by rw [show (6 : Int32) = nI 6 from rfl, pk_mul]), nI_add]
  have e1 : (6 : Int32) * nI k + 1 = nI (6 * k + 1) := e 1 (by omega)
  have e2 : (6 : Int32) * nI k + 2 = nI (6 * k + 2) := e 2 (by omega)
  have e3 : (6 : Int32) * nI k + 3 = nI (6 * k + 3) := e 3 (by omega)
  have e4 : (6 : Int32) * nI k + 4 = nI (6 * k + 4) := e 4 (by omega)
  have e5 : (6 : Int32) * nI k + 5 = nI (6 * k + 5) := e 5 (by omega)
  have hin : ∀ j, j < 6 → vp_in (nI (6 * k + j)) 12 := fun j hj => vp_in_nI (by omega) (by omega)
  have hix : ∀ j, j < 6 → ix (nI (6 * k + j)) = 6 * k + j := fun j hj => ix_nI (by omega)
  refine ⟨sI (sI (sI (sI (sI (sI m 225 2 (gI m 271 (6 * k))) 225 3 (gI m 271 (6 * k + 1))) 225 4 (gI m 271 (6 * k + 2))) 225 6 (gI m 271 (6 * k + 3))) 225 7 (gI m 271 (6 * k + 4))) 225 5 (gI m 271 (6 * k + 5)), fun o => ?_, ?_, fun j hj => ?_⟩
  · simp (config := {decide := true}) only [f_X12_putsBack_321, f_X12_putsBack_336, f_X12_putsBack_351, f_X12_putsBack_366, f_X12_putsBack_381, f_X12_putsBack_396, e1, e2, e3, e4, e5, hix 1 (by omega), hix 2 (by omega), hix 3 (by omega), hix 4 (by omega), hix 5 (by omega), hin 1 (by omega), hin 2 (by omega), hin 3 (by omega), hin 4 (by omega), hin 5 (by omega), gI_sI, gT_sI, gN_sI, gR_sI, shT_225 h, shR_225_66 h, shT_271 h, shN_271 h, ne_eq, not_false_eq_true, and_self, and_true, true_and, and_false, false_and, true_or, or_true, false_or, or_false, not_true_eq_false, if_false, if_true]
  · refine Fr_sI (Fr_sI (Fr_sI (Fr_sI (Fr_sI (Fr_sI (Fr_refl _ m) ?_ _) ?_ _) ?_ _) ?_ _) ?_ _) ?_ _ <;> omega
  · unfold knum cnum
    have : j = 0 ∨ j = 1 ∨ j = 2 ∨ j = 3 ∨ j = 4 ∨ j = 5 := by omega
    rcases this with rfl | rfl | rfl | rfl | rfl | rfl <;> simp [gI_sI]
/-- rows that say the same, the k-th part of one the j-th of the other -/
theorem EqA_cp {a r r' : Nat → Nat → Int32} {k k' n c : Nat} {d : Nat → Int32} (hn : n ≤ 12) (hc : c ≤ 16) (hst : ∀ s, s < n → a (7 + 2 * s) 7 = 0 ∨ a (7 + 2 * s) 7 = 1) (h1 : ∀ s, s < 12 → (∀ f, f < 6 → r' f (12 * k' + s) = r f (12 * k + s)) ∧ r' 6 (12 * k' + s) = r 6 (12 * k + s) &&& 1) (h2 : ∀ i, i < 16 → ∀ f, 7 ≤ f → f ≤ 10 → r' f (16 * k' + i) = r f (16 * k + i)) (h3 : ∀ i, i < 80 → r' 11 (80 * k' + i) = r 11 (80 * k + i)) (h4 : ∀ i, i < 5 → r' 12 (5 * k' + i) = r 12 (5 * k + i)) (h5 : ∀ i, i < 192 → r' 13 (192 * k' + i) = r 13 (192 * k + i)) (hE : EqA a r k n c d) : EqA a r' k' n c d := by
  obtain ⟨e1, e2, e3, e4⟩ := hE
  refine ⟨fun s hs => ?_, fun i hi => ?_, fun j hj => ?_, fun s hs i hi => ?_⟩
  · obtain ⟨q0, q1, q2, q3, q4, q5, q6⟩ := e1 s hs
    obtain ⟨g, g6⟩ := h1 s (by omega)
    refine ⟨?_, ?_, ?_, ?_, ?_, ?_, ?_⟩
    · rw [g 0 (by omega)]; exact q0
    · rw [g 1 (by omega)]; exact q1
    · rw [g 2 (by omega)]; exact q2
    · rw [g 3 (by omega)]; exact q3
    · rw [g 4 (by omega)]; exact q4
    · rw [g 5 (by omega)]; exact q5
    · rw [g6, q6]
      rcases hst s hs with z | z <;> rw [z] <;> decide
  · obtain ⟨q1, q2, q3, q4, q5⟩ := e2 i hi
    have g := h2 i (by omega)
    refine ⟨?_, ?_, ?_, ?_, fun j hj => ?_⟩
    · rw [g 7 (by omega) (by omega)]; exact q1
    · rw [g 8 (by omega) (by omega)]; exact q2
    · rw [g 9 (by omega) (by omega)]; exact q3
    · rw [g 10 (by omega) (by omega)]; exact q4
    · rw [Nat.add_assoc, h3 (5 * i + j) (by omega), ← Nat.add_assoc]; exact q5 j hj
  · rw [h4 j hj]; exact e3 j hj
  · rw [Nat.add_assoc, h5 (16 * s + i) (by omega), ← Nat.add_assoc]; exact e4 s hs i hi
theorem eN_cp {f num num' : Nat → Int32} (h : ∀ j, j < 6 → num' j = num j) (hN : eN f num) : eN f num' := by
  unfold eN at hN ⊢
  rw [h 0 (by omega), h 1 (by omega), h 2 (by omega), h 3 (by omega), h 4 (by omega), h 5 (by omega)]
  exact hN
theorem e_setsAside {m : Mm} (h : Sh m) {k : Nat} (hk : k ≤ 1) : ∃ m', (∀ o, F_X12_setsAside 225 (nI k) m o = ((), m', o)) ∧ Fr (fun q i => sideP k q i) m m' ∧ (∀ (a : Nat → Nat → Int32) (n c : Nat) (d : Nat → Int32), WfA a n c → MM m a n c d → EqA a (rws m' 257) k n c d ∧ eN (a 0) (knum m' k)) ∧ ∀ j, j < 5 → gI m' 269 (5 * k + j) = gI m 239 j := by
  obtain ⟨m1, a1, a2, a3⟩ := l_sa_2 h hk _ (fun _ _ => rfl) 12 1000 0 m (by omega) (by omega) (Fr_refl _ m) (fun x hx => by omega)
  have h1 := Fr_Sh a2 h
  obtain ⟨m2, b1, b2, b3⟩ := l_sa_135 h1 hk _ (fun _ _ => rfl) 16 1000 0 m1 (by omega) (by omega) (Fr_refl _ m1) (fun x hx => by omega)
  have h2 := Fr_Sh b2 h1
  obtain ⟨m3, c1, c2, c3⟩ := l_sa_217 h2 hk _ (fun _ _ => rfl) 80 1000 0 m2 (by omega) (by omega) (Fr_refl _ m2) (fun x hx => by omega)
  have h3 := Fr_Sh c2 h2
  obtain ⟨m4, d1, d2, d3⟩ := l_sa_248 h3 hk _ (fun _ _ => rfl) 5 1000 0 m3 (by omega) (by omega) (Fr_refl _ m3) (fun x hx => by omega)
  have h4 := Fr_Sh d2 h3
  obtain ⟨m5, e1, e2, e3⟩ := l_sa_277 h4 hk _ (fun _ _ _ => rfl) 192 1000 0 m4 (by omega) (by omega) (Fr_refl _ m4) (fun x hx => by omega)
  have h5 := Fr_Sh e2 h4
  obtain ⟨m6, f1, f2, f3⟩ := e_saNum h5 hk
  have hF : Fr (fun q i => sideP k q i) m m6 := Fr_trans (Fr_trans (Fr_trans (Fr_trans (Fr_trans (Fr_mono a2 (fun q i hq => by unfold sideP; omega)) (Fr_mono b2 (fun q i hq => by unfold sideP; omega))) (Fr_mono c2 (fun q i hq => by unfold sideP; omega))) (Fr_mono d2 (fun q i hq => by unfold sideP; omega))) (Fr_mono e2 (fun q i hq => by unfold sideP; omega))) (Fr_mono f2 (fun q i hq => by unfold sideP; omega))
  have F5 : Fr (fun q i => sideP k q i) m m5 := Fr_trans (Fr_trans (Fr_trans (Fr_trans (Fr_mono a2 (fun q i hq => by unfold sideP; omega)) (Fr_mono b2 (fun q i hq => by unfold sideP; omega))) (Fr_mono c2 (fun q i hq => by unfold sideP; omega))) (Fr_mono d2 (fun q i hq => by unfold sideP; omega))) (Fr_mono e2 (fun q i hq => by unfold sideP; omega))
  have g7 : ∀ s, s < 12 → ∀ f, f < 7 → gI m6 (257 + f) (12 * k + s) = gI m1 (257 + f) (12 * k + s) := fun s hs f hf => by
    rw [Fr_at f2 (by omega), Fr_at e2 (by omega), Fr_at d2 (by omega), Fr_at c2 (by omega), Fr_at b2 (by omega)]
  have g16 : ∀ s, s < 16 → ∀ f, 7 ≤ f → f ≤ 10 → gI m6 (257 + f) (16 * k + s) = gI m2 (257 + f) (16 * k + s) := fun s hs f hf hg => by
    rw [Fr_at f2 (by omega), Fr_at e2 (by omega), Fr_at d2 (by omega), Fr_at c2 (by omega)]
  have v12 : ∀ i, i < 5 → gI m6 269 (5 * k + i) = gI m 239 i := fun i hi => by
    rw [Fr_at f2 (by omega), Fr_at e2 (by omega), d3 i hi, Fr_at c2 (by omega), Fr_at b2 (by omega), Fr_at a2 (by omega)]
  rw [nI_0] at a1 b1 c1 d1 e1
  refine ⟨m6, fun o => ?_, hF, fun a n c d hW hE => ⟨?_, ?_⟩, v12⟩
  · show f_X12_setsAside_2 1000 225 (nI k) 0 m o = _
    rw [a1, b1, c1, d1, e1, f1]
  · refine EqA_cp (k := 0) hW.1.1.1 hW.1.1.2 (fun s hs => (hW.2.1 s hs).2.2.2.2.2.2.2) (fun s hs => ⟨fun f hf => ?_, ?_⟩) (fun i hi f hf hg => ?_) (fun i hi => ?_) (fun i hi => ?_) (fun i hi => ?_) hE.1
    · show gI m6 (257 + f) (12 * k + s) = gI m (227 + f) (12 * 0 + s)
      rw [g7 s hs f (by omega), Nat.mul_zero, Nat.zero_add]
      obtain ⟨q0, q1, q2, q3, q4, q5, q6⟩ := a3 s hs
      have : f = 0 ∨ f = 1 ∨ f = 2 ∨ f = 3 ∨ f = 4 ∨ f = 5 := by omega
      rcases this with rfl | rfl | rfl | rfl | rfl | rfl
      · exact q0
      · exact q1
      · exact q2
      · exact q3
      · exact q4
      · exact q5
    · show gI m6 (257 + 6) (12 * k + s) = gI m (227 + 6) (12 * 0 + s) &&& 1
      rw [g7 s hs 6 (by omega), Nat.mul_zero, Nat.zero_add]
      exact (a3 s hs).2.2.2.2.2.2
    · show gI m6 (257 + f) (16 * k + i) = gI m (227 + f) (16 * 0 + i)
      rw [g16 i hi f hf hg, Nat.mul_zero, Nat.zero_add]
      obtain ⟨q0, q1, q2, q3⟩ := b3 i hi
      have : f = 7 ∨ f = 8 ∨ f = 9 ∨ f = 10 := by omega
      rcases this with rfl | rfl | rfl | rfl
      · exact q0.trans (Fr_at a2 (by omega))
      · exact q1.trans (Fr_at a2 (by omega))
      · exact q2.trans (Fr_at a2 (by omega))
      · exact q3.trans (Fr_at a2 (by omega))
    · show gI m6 268 (80 * k + i) = gI m 238 (80 * 0 + i)
      rw [Fr_at f2 (by omega), Fr_at e2 (by omega), Fr_at d2 (by omega), c3 i hi, Nat.mul_zero, Nat.zero_add, Fr_at b2 (by omega), Fr_at a2 (by omega)]
    · show gI m6 269 (5 * k + i) = gI m 239 (5 * 0 + i)
      rw [v12 i hi, Nat.mul_zero, Nat.zero_add]
    · show gI m6 270 (192 * k + i) = gI m 240 (192 * 0 + i)
      rw [Fr_at f2 (by omega), e3 i hi, Nat.mul_zero, Nat.zero_add, Fr_at d2 (by omega), Fr_at c2 (by omega), Fr_at b2 (by omega), Fr_at a2 (by omega)]
  · refine eN_cp (fun j hj => ?_) hE.2
    rw [f3 j hj]
    exact Fr_at F5 (by unfold sideP; omega)
theorem e_putsBack {m : Mm} (h : Sh m) {k : Nat} (hk : k ≤ 1) : ∃ m', (∀ o, F_X12_putsBack 225 (nI k) m o = ((), m', o)) ∧ Fr (fun q i => nowP q i) m m' ∧ (∀ (a : Nat → Nat → Int32) (n c : Nat) (d : Nat → Int32), WfA a n c → EqA a (rws m 257) k n c d → eN (a 0) (knum m k) → MM m' a n c d) := by
  obtain ⟨m1, a1, a2, a3⟩ := l_pb_2 h hk _ (fun _ _ => rfl) 12 1000 0 m (by omega) (by omega) (Fr_refl _ m) (fun x hx => by omega)
  have h1 := Fr_Sh a2 h
  obtain ⟨m2, b1, b2, b3⟩ := l_pb_135 h1 hk _ (fun _ _ => rfl) 16 1000 0 m1 (by omega) (by omega) (Fr_refl _ m1) (fun x hx => by omega)
  have h2 := Fr_Sh b2 h1
  obtain ⟨m3, c1, c2, c3⟩ := l_pb_217 h2 hk _ (fun _ _ => rfl) 80 1000 0 m2 (by omega) (by omega) (Fr_refl _ m2) (fun x hx => by omega)
  have h3 := Fr_Sh c2 h2
  obtain ⟨m4, d1, d2, d3⟩ := l_pb_248 h3 hk _ (fun _ _ => rfl) 5 1000 0 m3 (by omega) (by omega) (Fr_refl _ m3) (fun x hx => by omega)
  have h4 := Fr_Sh d2 h3
  obtain ⟨m5, e1, e2, e3⟩ := l_pb_277 h4 hk _ (fun _ _ _ => rfl) 192 1000 0 m4 (by omega) (by omega) (Fr_refl _ m4) (fun x hx => by omega)
  have h5 := Fr_Sh e2 h4
  obtain ⟨m6, f1, f2, f3⟩ := e_pbNum h5 hk
  have F5 : Fr (fun q i => nowP q i) m m5 := Fr_trans (Fr_trans (Fr_trans (Fr_trans (Fr_mono a2 (fun q i hq => by unfold nowP; omega)) (Fr_mono b2 (fun q i hq => by unfold nowP; omega))) (Fr_mono c2 (fun q i hq => by unfold nowP; omega))) (Fr_mono d2 (fun q i hq => by unfold nowP; omega))) (Fr_mono e2 (fun q i hq => by unfold nowP; omega))
  have hF : Fr (fun q i => nowP q i) m m6 := Fr_trans F5 (Fr_mono f2 (fun q i hq => by unfold nowP; omega))
  have g7 : ∀ s, s < 12 → ∀ f, f < 7 → gI m6 (227 + f) s = gI m1 (227 + f) s := fun s hs f hf => by
    rw [Fr_at f2 (by omega), Fr_at e2 (by omega), Fr_at d2 (by omega), Fr_at c2 (by omega), Fr_at b2 (by omega)]
  have g16 : ∀ s, s < 16 → ∀ f, 7 ≤ f → f ≤ 10 → gI m6 (227 + f) s = gI m2 (227 + f) s := fun s hs f hf hg => by
    rw [Fr_at f2 (by omega), Fr_at e2 (by omega), Fr_at d2 (by omega), Fr_at c2 (by omega)]
  rw [nI_0] at a1 b1 c1 d1 e1
  refine ⟨m6, fun o => ?_, hF, fun a n c d hW hE hN => ⟨?_, ?_⟩⟩
  · show f_X12_putsBack_2 1000 225 (nI k) 0 m o = _
    rw [a1, b1, c1, d1, e1, f1]
  · refine EqA_cp (k' := 0) hW.1.1.1 hW.1.1.2 (fun s hs => (hW.2.1 s hs).2.2.2.2.2.2.2) (fun s hs => ⟨fun f hf => ?_, ?_⟩) (fun i hi f hf hg => ?_) (fun i hi => ?_) (fun i hi => ?_) (fun i hi => ?_) hE
    · show gI m6 (227 + f) (12 * 0 + s) = gI m (257 + f) (12 * k + s)
      rw [Nat.mul_zero, Nat.zero_add, g7 s hs f (by omega)]
      obtain ⟨q0, q1, q2, q3, q4, q5, q6⟩ := a3 s hs
      have : f = 0 ∨ f = 1 ∨ f = 2 ∨ f = 3 ∨ f = 4 ∨ f = 5 := by omega
      rcases this with rfl | rfl | rfl | rfl | rfl | rfl
      · exact q0
      · exact q1
      · exact q2
      · exact q3
      · exact q4
      · exact q5
    · show gI m6 (227 + 6) (12 * 0 + s) = gI m (257 + 6) (12 * k + s) &&& 1
      rw [Nat.mul_zero, Nat.zero_add, g7 s hs 6 (by omega)]
      exact (a3 s hs).2.2.2.2.2.2
    · show gI m6 (227 + f) (16 * 0 + i) = gI m (257 + f) (16 * k + i)
      rw [Nat.mul_zero, Nat.zero_add, g16 i hi f hf hg]
      obtain ⟨q0, q1, q2, q3⟩ := b3 i hi
      have : f = 7 ∨ f = 8 ∨ f = 9 ∨ f = 10 := by omega
      rcases this with rfl | rfl | rfl | rfl
      · exact q0.trans (Fr_at a2 (by omega))
      · exact q1.trans (Fr_at a2 (by omega))
      · exact q2.trans (Fr_at a2 (by omega))
      · exact q3.trans (Fr_at a2 (by omega))
    · show gI m6 238 (80 * 0 + i) = gI m 268 (80 * k + i)
      rw [Nat.mul_zero, Nat.zero_add, Fr_at f2 (by omega), Fr_at e2 (by omega), Fr_at d2 (by omega), c3 i hi, Fr_at b2 (by omega), Fr_at a2 (by omega)]
    · show gI m6 239 (5 * 0 + i) = gI m 269 (5 * k + i)
      rw [Nat.mul_zero, Nat.zero_add, Fr_at f2 (by omega), Fr_at e2 (by omega), d3 i hi, Fr_at c2 (by omega), Fr_at b2 (by omega), Fr_at a2 (by omega)]
    · show gI m6 240 (192 * 0 + i) = gI m 270 (192 * k + i)
      rw [Nat.mul_zero, Nat.zero_add, Fr_at f2 (by omega), e3 i hi, Fr_at d2 (by omega), Fr_at c2 (by omega), Fr_at b2 (by omega), Fr_at a2 (by omega)]
  · refine eN_cp (fun j hj => ?_) hN
    rw [f3 j hj]
    exact Fr_at F5 (by unfold nowP; omega)
theorem off_5 (f : Nat) : 5 ≤ off f := by unfold off; (repeat' split) <;> omega
theorem p_keep : Pr_keep Rel := PrI_ex (fun m hR => by
  have h := hR.1
  obtain ⟨g, n, c, hM, hW, hE⟩ := ghost_of hR
  have hn := hW.1.1.1
  obtain ⟨m1, b, a1, a2, a3, a4⟩ := e_copyFrom h (p := 65) (p' := 2) (.inr (.inl rfl)) (.inl rfl) (by omega) hM hW
  have h1 := Fr_Sh a2 h
  have hW' := ag_Wf a4 hW
  have s1 : Sh (sI m1 1 11 1) := h1
  have M2 : Md (sI m1 1 11 1) 2 g := Md_ne (Md_frame hM (fun q i hq => Fr_at a2 (by unfold inM at *; omega))) 11 1 (by unfold inM; omega)
  have h6 : gI (sI m1 1 11 1) 2 6 = nI n := (M2 0 6 (by omega) (by omega)).trans hW.1.2.1
  have E1 : MM (sI (sI m1 1 11 1) 225 77 1) g n c d0 := MM_frame hE (fun q i hq => by
    rw [gI_sI, if_neg (by omega), gI_sI, if_neg (by omega)]
    exact Fr_at a2 (by unfold inM; omega))
  have s2 : Sh (sI (sI m1 1 11 1) 225 77 1) := h1
  obtain ⟨m2, c1, c2, c3, -⟩ := e_setsAside s2 (k := 1) (by omega)
  obtain ⟨c4, c5⟩ := c3 g n c d0 hW E1
  have s3 := Fr_Sh c2 s2
  have h2' : gI m2 225 2 = nI n := (Fr_at c2 (by unfold sideP; omega)).trans (E1.2.1.trans hW.1.2.1)
  have keepF : ∀ q i, inNow q i ∨ inTape q i ∨ inLaw q i → gI m2 q i = gI m q i := fun q i hq => by
    rw [Fr_at c2 (by unfold sideP inNow inTape inLaw at *; omega), gI_sI, if_neg (by unfold inNow inTape inLaw at hq; omega), gI_sI, if_neg (by unfold inNow inTape inLaw at hq; omega)]
    exact Fr_at a2 (by unfold inM inNow inTape inLaw at *; omega)
  refine ⟨sumI (fun t => gI (sI m1 1 11 1) (2 + 7 + 2 * t) 7) 0 0 n, sI m1 1 11 1, m2, fun o => ?_, s1, fun o => ?_, Rel_parts hR s3 ⟨?_, ?_⟩ (Now_frame hR.2.2.1 (fun q i hq => keepF q i (.inl hq))) ⟨⟨?_, .inr ?_⟩, fun _ => ⟨n, c, RMn_of (a := b) ?_ hW' (ag_Eq a4 hW.1.1.2 c4) (ag_N a4 c5)⟩⟩ (Tape_frame hR.2.2.2.2.2.1 (fun q i hq => keepF q i (.inr (.inl hq)))) (Law_frame hR.2.1 hR.2.2.2.2.2.2 ?_ (fun q i hq => keepF q i (.inr (.inr hq))))⟩
  · simp (config := {decide := true}) only [f_X11_keep_23, f_X11_keep_16, f_X11_keep_11, f_X11_keep_0, F_X11_keep, bnd, shT_1 h, shR_1_0 h, shR_1_1 h, shT_2 h, shT_65 h, shT_1 h1, shT_1 s1, shR_1_0 s1, shT_2 s1, a1, e_standingCount s1 (p := 2) (.inl rfl) hn h6, ne_eq, not_false_eq_true, and_self, and_true, true_and, and_false, false_and, true_or, or_true, false_or, or_false, not_true_eq_false, if_false, if_true]
  · have e1 : F_X12_setsAside 225 1 (sI (sI m1 1 11 1) 225 77 1) = fun o => ((), m2, o) := funext c1
    have es : sumI (fun t => gI m2 233 t) 0 0 n = sumI (fun t => gI (sI m1 1 11 1) (2 + 7 + 2 * t) 7) 0 0 n := sumI_congr n 0 0 (fun t _ ht => by
      rw [Fr_at c2 (by unfold sideP; omega), (MM_at E1 (by omega)).2.2.2.2.2.2]
      exact (Md_at M2 (by omega) (by omega) (by omega)).symm)
    simp (config := {decide := true}) only [f_X12_keep_14, f_X12_keep_10, f_X12_keep_5, f_X12_keep_0, F_X12_keep, bnd, shT_225 s1, shT_225 s2, shT_225 s3, e1, e_standingM s3 hn h2', es, ne_eq, not_false_eq_true, and_self, and_true, true_and, and_false, false_and, true_or, or_true, false_or, or_false, not_true_eq_false, if_false, if_true]
  · rw [Fr_R c2]; exact Fr_R a2 1 9
  · rw [Fr_R c2]; exact Fr_R a2 1 10
  · rw [Fr_at c2 (by unfold sideP; omega), Fr_at c2 (by unfold sideP; omega)]
    rfl
  · rw [Fr_at c2 (by unfold sideP; omega)]
    rfl
  · refine Md_frame a3 (fun q i hq => ?_)
    rw [Fr_at c2 (by unfold sideP inM at *; omega), gI_sI, if_neg (by unfold inM at hq; omega), gI_sI, if_neg (by unfold inM at hq; omega)]
  · rw [Fr_R c2]; exact Fr_R a2 1 9)
theorem p_undo : Pr_undo Rel := PrI_ex (fun m hR => by
  have h := hR.1
  obtain ⟨⟨k1, k2⟩, k3⟩ := Rel_kept hR
  rcases k2 with k2 | k2
  · refine ⟨0, m, m, fun o => ?_, h, fun o => ?_, hR⟩
    · simp (config := {decide := true}) only [f_X11_undo_18, f_X11_undo_0, F_X11_undo, shT_1 h, k2, ne_eq, not_false_eq_true, and_self, and_true, true_and, and_false, false_and, true_or, or_true, false_or, or_false, not_true_eq_false, if_false, if_true]
    · simp (config := {decide := true}) only [f_X12_undo_14, f_X12_undo_0, F_X12_undo, shT_225 h, ← k1, k2, ne_eq, not_false_eq_true, and_self, and_true, true_and, and_false, false_and, true_or, or_true, false_or, or_false, not_true_eq_false, if_false, if_true]
  · obtain ⟨n, c, hk⟩ := k3 k2
    obtain ⟨hW, hE, hN⟩ := RMn_to (Md_vw m 65) hk
    obtain ⟨m1, b, a1, a2, a3, a4⟩ := e_copyFrom h (p := 2) (p' := 65) (.inl rfl) (.inr (.inl rfl)) (by omega) (Md_vw m 65) hW
    have h1 := Fr_Sh a2 h
    have hrw : ∀ q i, 225 ≤ q → gI m1 q i = gI m q i := fun q i hq => Fr_at a2 (by unfold inM; omega)
    have er : rws m1 257 = rws m 257 := funext (fun f => funext (fun i => hrw _ _ (by omega)))
    have en : knum m1 1 = knum m 1 := funext (fun j => hrw _ _ (by omega))
    obtain ⟨m2, b1, b2, b3⟩ := e_putsBack h1 (k := 1) (by omega)
    have s3 := Fr_Sh b2 h1
    have E := b3 _ n c d0 hW (by rw [er]; exact hE) (by rw [en]; exact hN)
    have E' : MM m2 b n c d0 := ⟨ag_Eq a4 hW.1.1.2 E.1, ag_N a4 E.2⟩
    have k77 : gI m1 225 77 = 1 := (hrw 225 77 (by omega)).trans (k1.symm.trans k2)
    have k11 : gI m1 1 11 = 1 := (Fr_at a2 (by unfold inM; omega)).trans k2
    refine ⟨1, m1, m2, fun o => ?_, h1, fun o => ?_, Rel_ghost hR s3 ⟨?_, ?_⟩ (fun q i hq => ?_) (Md_frame a3 (fun q i hq => Fr_at b2 (by unfold inM nowP at *; omega))) (ag_Wf a4 hW) E'⟩
    · simp (config := {decide := true}) only [f_X11_undo_18, f_X11_undo_0, F_X11_undo, bnd, shT_1 h, shR_1_0 h, shR_1_1 h, shT_2 h, shT_65 h, shT_1 h1, k2, k11, a1, ne_eq, not_false_eq_true, and_self, and_true, true_and, and_false, false_and, true_or, or_true, false_or, or_false, not_true_eq_false, if_false, if_true]
    · have e1 : F_X12_putsBack 225 1 m1 = fun o => ((), m2, o) := funext b1
      simp (config := {decide := true}) only [f_X12_undo_14, f_X12_undo_0, F_X12_undo, bnd, shT_225 h1, k77, e1, ne_eq, not_false_eq_true, and_self, and_true, true_and, and_false, false_and, true_or, or_true, false_or, or_false, not_true_eq_false, if_false, if_true]
    · rw [Fr_R b2]; exact Fr_R a2 1 9
    · rw [Fr_R b2]; exact Fr_R a2 1 10
    · have hz : ¬ nowP q i ∧ ¬ inM 2 q := by unfold keepP inKept inTape inLaw nowP inM at *; omega
      rw [Fr_at b2 hz.1, Fr_at a2 hz.2])

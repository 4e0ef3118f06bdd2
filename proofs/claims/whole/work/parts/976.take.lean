/-! ===== words read by the other side ===== -/
def tkP (q _i : Nat) : Prop := q = 278 ∨ q = 279 ∨ q = 280
theorem e_byteAtM {m : Mm} (h : Sh m) {k b : Nat} (hk : k < 220) (hb : gI m 226 k &&& 255 = nI b) (o : Prop) : F_X12_byteAt 225 (nI k) m o = (nI b, m, o) := by
  have hin : vp_in (nI k) 220 := vp_in_nI (by omega) (by omega)
  simp (config := {decide := true}) only [f_X12_byteAt_0, F_X12_byteAt, shT_225 h, shR_225_0 h, shT_226 h, shN_226 h, hin, ix_nI (show k < 2 ^ 31 by omega), hb, ne_eq, not_false_eq_true, and_self, and_true, true_and, and_false, false_and, true_or, or_true, false_or, or_false, not_true_eq_false, if_false, if_true]
theorem bnd_mk {β γ : Type} (v : β) (m : Mm) (o : Prop) (k : β → Mm → Prop → γ) : bnd (v, m, o) k = k v m o := rfl
theorem tk_st {m : Mm} (s1 : Sh m) {B : Nat → Nat} {i : Nat} (b1 : B (3 * i + 1) < 256) (x1 : ∀ o, F_X12_byteAt 225 (nI (3 * i + 1)) m o = (nI (B (3 * i + 1)), m, o)) (nw : Nat) (v : Int32) : ∀ (K : Nat → Int32 → Int32 → Int32 → Mm → Prop → Int32 × Mm × Prop) o, f_X12_takesWords_36 K 225 (nI nw) v (nI i) (nI (B (3 * i + 1))) (nI i) 279 m o = f_X12_takesWords_55 K 225 (nI nw) v (nI i) (wStk B i) (nI i) 279 m o := fun K o => by
  have e0 : (3 : Int32) * nI i = nI (3 * i) := by rw [show (3 : Int32) = nI 3 from rfl, pk_mul]
  have e1 : nI (3 * i) + (1 : Int32) = nI (3 * i + 1) := nI_add _ 1
  have e255 : (nI (B (3 * i + 1)) = (255 : Int32)) = (B (3 * i + 1) = 255) := propext (nI_eq (a := B (3 * i + 1)) (b := 255) (by omega) (by omega))
  unfold f_X12_takesWords_36 wStk
  by_cases q : B (3 * i + 1) = 255
  · have q' : nI (B (3 * i + 1)) = (255 : Int32) := e255.mpr q
    rw [if_pos q', if_pos q]
  · have q' : ¬ nI (B (3 * i + 1)) = (255 : Int32) := fun z => q (e255.mp z)
    rw [if_neg q', if_neg q, e0, e1, x1, bnd_mk, shT_225 s1, eq_self, and_true]
theorem l_take {m0 : Mm} (h0 : Sh m0) {B : Nat → Nat} (hB : ∀ i, B i < 256) {t nw n c : Nat} (ht : t ≤ 220) (hnw : 3 * nw ≤ t) (hn30 : nw ≤ 30) (hn : n ≤ 12) (hc : c ≤ 16) (hb : ∀ i, i < t → gI m0 226 i &&& 255 = nI (B i)) (h2 : gI m0 225 2 = nI n) (h3 : gI m0 225 3 = nI c) : ∀ (k N i : Nat) (v : Int32) (m : Mm), i + k = nw → k < N → Fr tkP m0 m → wrdM B m i → (v = 0 ∨ v = 1) → (v = 1 ↔ ∀ j, j < i → okW B n c j) → ∃ m' r, (∀ o, f_X12_takesWords_4 N 225 (nI nw) v (nI i) m o = (r, m', o)) ∧ Fr tkP m0 m' ∧ wrdM B m' nw ∧ (r = 0 ∨ r = 1) ∧ (r = 1 ↔ ∀ j, j < nw → okW B n c j) := by
  intro k
  induction k with
  | zero =>
    intro N i v m hi hN hF hw hv hiff
    obtain ⟨N, rfl⟩ : ∃ N1, N = N1 + 1 := ⟨N - 1, by omega⟩
    obtain rfl : i = nw := by omega
    refine ⟨m, v, fun o => ?_, hF, hw, hv, hiff⟩
    show f_X12_takesWords_4b (f_X12_takesWords_4 N) 225 (nI i) v (nI i) m o = _
    unfold f_X12_takesWords_4b
    rw [if_pos (Int32.le_refl _)]
    simp only [eq_true hv, and_true]
  | succ k ih =>
    intro N i v m hi hN hF hw hv hiff
    obtain ⟨N, rfl⟩ : ∃ N1, N = N1 + 1 := ⟨N - 1, by omega⟩
    have h := Fr_Sh hF h0
    have gb : ∀ x, x < t → gI m 226 x &&& 255 = nI (B x) := fun x hx => by rw [Fr_at hF (by unfold tkP; omega)]; exact hb x hx
    have g2 : gI m 225 2 = nI n := (Fr_at hF (by unfold tkP; omega)).trans h2
    have g3 : gI m 225 3 = nI c := (Fr_at hF (by unfold tkP; omega)).trans h3
    have b0 := hB (3 * i)
    have b1 := hB (3 * i + 1)
    have b2 := hB (3 * i + 2)
    have e0 : (3 : Int32) * nI i = nI (3 * i) := by rw [show (3 : Int32) = nI 3 from rfl, pk_mul]
    have e1 : nI (3 * i) + (1 : Int32) = nI (3 * i + 1) := nI_add _ 1
    have e2 : nI (3 * i) + (2 : Int32) = nI (3 * i + 2) := nI_add _ 2
    have hin : vp_in (nI i) 30 := vp_in_nI (by omega) (by omega)
    have e255 : (nI (B (3 * i + 1)) = (255 : Int32)) = (B (3 * i + 1) = 255) := propext (nI_eq (a := B (3 * i + 1)) (b := 255) (by omega) (by omega))
    have s1 : Sh (sI m 278 i (nI (B (3 * i)))) := h
    have s2 : Sh (sI (sI m 278 i (nI (B (3 * i)))) 279 i (wStk B i)) := h
    generalize hm5 : sI (sI (sI m 278 i (nI (B (3 * i)))) 279 i (wStk B i)) 280 i (nI (B (3 * i + 2))) = m5
    have F5 : Fr tkP m0 m5 := by
      rw [← hm5]
      refine Fr_sI (Fr_sI (Fr_sI hF ?_ _) ?_ _) ?_ _ <;> unfold tkP <;> omega
    have s5 := Fr_Sh F5 h0
    have w5 : wrdM B m5 (i + 1) := fun j hj => by
      rw [← hm5]
      by_cases q : j = i
      · subst q
        refine ⟨?_, ?_, ?_⟩ <;> simp [gI_sI, wCow, wDay]
      · simp only [gI_sI, q, and_false, if_false]
        exact hw j (by omega)
    have g25 : gI m5 225 2 = nI n := (Fr_at F5 (by unfold tkP; omega)).trans h2
    have g35 : gI m5 225 3 = nI c := (Fr_at F5 (by unfold tkP; omega)).trans h3
    obtain ⟨y1, y2, y3⟩ := w5 i (by omega)
    -- the three bytes are laid down
    have pre : ∀ (K : Nat → Int32 → Int32 → Int32 → Mm → Prop → Int32 × Mm × Prop) o, f_X12_takesWords_4b K 225 (nI nw) v (nI i) m o = f_X12_takesWords_71 K 225 (nI nw) v (nI i) m5 o := fun K o => by
      have x0 := fun o => e_byteAtM h (show 3 * i < 220 by omega) (gb _ (show 3 * i < t by omega)) o
      have x1 := fun o => e_byteAtM s1 (show 3 * i + 1 < 220 by omega) (b := B (3 * i + 1)) (by rw [gI_sI, if_neg (by omega)]; exact gb _ (by omega)) o
      have x2 := fun o => e_byteAtM s2 (show 3 * i + 2 < 220 by omega) (b := B (3 * i + 2)) (by rw [gI_sI, if_neg (by omega), gI_sI, if_neg (by omega)]; exact gb _ (by omega)) o
      have st : ∀ K o, f_X12_takesWords_36 K 225 (nI nw) v (nI i) (nI (B (3 * i + 1))) (nI i) 279 (sI m 278 i (nI (B (3 * i)))) o = f_X12_takesWords_55 K 225 (nI nw) v (nI i) (wStk B i) (nI i) 279 (sI m 278 i (nI (B (3 * i)))) o := tk_st s1 b1 x1 nw v
      rw [← hm5]
      unfold f_X12_takesWords_4b
      rw [if_neg (nI_ge (by omega) (by omega))]
      simp (config := {decide := true}) only [f_X12_takesWords_21, f_X12_takesWords_22, bnd, e0, e1, shT_225 h, shR_225_74 h, shT_278 h, shN_278 h, shT_225 s1, shR_225_75 s1, x0, x1, hin, ix_nI (show i < 2 ^ 31 by omega), st, ne_eq, not_false_eq_true, and_self, and_true, true_and, and_false, false_and, true_or, or_true, false_or, or_false, not_true_eq_false, if_false, if_true]
      simp (config := {decide := true}) only [f_X12_takesWords_55, f_X12_takesWords_56, f_X12_takesWords_70, bnd, e0, e2, shT_279 s1, shN_279 s1, shT_225 s2, shR_225_76 s2, shT_280 s2, shN_280 s2, hin, ix_nI (show i < 2 ^ 31 by omega), x2, ne_eq, not_false_eq_true, and_self, and_true, true_and, and_false, false_and, true_or, or_true, false_or, or_false, not_true_eq_false, if_false, if_true]
    have okC : (0 ≤ nI (wCow B i) ∧ nI (wCow B i) ≤ nI c - 1) ↔ wCow B i < c := by
      rw [rng_n (by omega)]
      unfold wCow
      constructor
      · rintro ⟨s, hs, e⟩; have := (nI_eq (by omega) (by omega)).mp e; omega
      · intro z; exact ⟨_, z, rfl⟩
    have okS : (wStk B i = -1 ∨ (0 ≤ wStk B i ∧ wStk B i ≤ nI n - 1)) ↔ (B (3 * i + 1) = 255 ∨ B (3 * i + 1) < n) := by
      rw [rng_n (by omega)]
      unfold wStk
      by_cases q : B (3 * i + 1) = 255
      · rw [if_pos q]; exact ⟨fun _ => .inl q, fun _ => .inl rfl⟩
      · rw [if_neg q]
        constructor
        · rintro (z | ⟨s, hs, e⟩)
          · exact absurd z (nI_ne_m1 (by omega))
          · have := (nI_eq (by omega) (by omega)).mp e; exact .inr (by omega)
        · rintro (z | z)
          · exact absurd z q
          · exact .inr ⟨_, z, rfl⟩
    have okD : ((10 : Int32) ≤ nI (wDay B i)) ↔ ¬ wDay B i < 10 := by
      unfold wDay
      have a2 : ((10:Int32) ≤ nI (B (3*i+2))) ↔ 10 ≤ B (3*i+2) := nI_leI (a := 10) (b := B (3*i+2)) (by omega) (by omega)
      rw [a2]
      omega
    have nxt : ∀ v', (v' = 0 ∨ v' = 1) → (v' = 1 ↔ (v = 1 ∧ okW B n c i)) → ∃ m' r, (∀ o, f_X12_takesWords_4 N 225 (nI nw) v' (nI (i + 1)) m5 o = (r, m', o)) ∧ Fr tkP m0 m' ∧ wrdM B m' nw ∧ (r = 0 ∨ r = 1) ∧ (r = 1 ↔ ∀ j, j < nw → okW B n c j) := fun v' z1 z2 => ih N (i + 1) v' m5 (by omega) (by omega) F5 w5 z1 (z2.trans ⟨fun z j hj => by
        by_cases q : j = i
        · rw [q]; exact z.2
        · exact hiff.mp z.1 j (by omega), fun z => ⟨hiff.mpr (fun j hj => z j (by omega)), z i (by omega)⟩⟩)
    have to0 : ∀ (K : Nat → Int32 → Int32 → Int32 → Mm → Prop → Int32 × Mm × Prop) o, f_X12_takesWords_126 K 225 (nI nw) (nI i) m5 o = K 225 (nI nw) 0 (nI (i + 1)) m5 o := fun K o => by
      unfold f_X12_takesWords_126 f_X12_takesWords_127
      rw [nI_1]
    have s111 : ∀ (K : Nat → Int32 → Int32 → Int32 → Mm → Prop → Int32 × Mm × Prop) o, f_X12_takesWords_111 K 225 (nI nw) (nI i) m5 o = if (10 : Int32) ≤ nI (wDay B i) then K 225 (nI nw) 0 (nI (i + 1)) m5 o else K 225 (nI nw) 1 (nI (i + 1)) m5 o := fun K o => by
      unfold f_X12_takesWords_111
      rw [to0]
      unfold f_X12_takesWords_127
      simp (config := {decide := true}) only [shT_225 s5, shR_225_76 s5, shT_280 s5, shN_280 s5, hin, ix_nI (show i < 2 ^ 31 by omega), y3, nI_1, ne_eq, not_false_eq_true, and_self, and_true, true_and, and_false, false_and, true_or, or_true, false_or, or_false, not_true_eq_false, if_false, if_true]
    have fin : ∀ (K : Nat → Int32 → Int32 → Int32 → Mm → Prop → Int32 × Mm × Prop) o, f_X12_takesWords_71 K 225 (nI nw) v (nI i) m5 o = @ite _ (v = 1 ∧ okW B n c i) (Classical.propDecidable _) (K 225 (nI nw) 1 (nI (i + 1)) m5 o) (K 225 (nI nw) 0 (nI (i + 1)) m5 o) := fun K o => by
      unfold f_X12_takesWords_71
      rw [to0]
      by_cases q0 : v = 0
      · rw [if_pos q0, if_neg (fun z => absurd (q0.symm.trans z.1) (by decide))]
      · rw [if_neg q0]
        have hv1 := hv.resolve_left q0
        unfold f_X12_takesWords_85 bnd
        simp (config := {decide := true}) only [shT_225 s5, shR_225_74 s5, shR_225_75 s5, shT_278 s5, shN_278 s5, shT_279 s5, shN_279 s5, hin, ix_nI (show i < 2 ^ 31 by omega), y1, y2, e_isCowM _ s5, g35, bI_0, to0, ne_eq, not_false_eq_true, and_self, and_true, true_and, and_false, false_and, true_or, or_true, false_or, or_false, not_true_eq_false, if_false, if_true]
        by_cases q1 : wCow B i < c
        · rw [if_neg (not_not_intro (okC.mpr q1))]
          by_cases q2 : wStk B i = -1
          · have q2' := okS.mp (.inl q2)
            rw [if_pos q2, s111]
            by_cases q3 : wDay B i < 10
            · rw [if_neg (fun z => okD.mp z q3), if_pos ⟨hv1, q1, q2', q3⟩]
            · rw [if_pos (okD.mpr q3), if_neg (fun z => q3 z.2.2.2)]
          · rw [if_neg q2]
            simp (config := {decide := true}) only [f_X12_takesWords_108, e_isStackM _ s5, g25, bI_0, to0, shT_225 s5, ne_eq, not_false_eq_true, and_self, and_true, true_and, and_false, false_and, true_or, or_true, false_or, or_false, not_true_eq_false, if_false, if_true]
            by_cases q4 : 0 ≤ wStk B i ∧ wStk B i ≤ nI n - 1
            · have q2' := okS.mp (.inr q4)
              rw [if_neg (not_not_intro q4), s111]
              by_cases q3 : wDay B i < 10
              · rw [if_neg (fun z => okD.mp z q3), if_pos ⟨hv1, q1, q2', q3⟩]
              · rw [if_pos (okD.mpr q3), if_neg (fun z => q3 z.2.2.2)]
            · rw [if_pos q4, if_neg (fun z => (okS.mpr z.2.2.1).elim q2 q4)]
        · rw [if_pos (fun z => q1 (okC.mp z)), if_neg (fun z => q1 z.2.1)]
    by_cases q : v = 1 ∧ okW B n c i
    · obtain ⟨m', r, q1, q2⟩ := nxt 1 (.inr rfl) ⟨fun _ => q, fun _ => rfl⟩
      refine ⟨m', r, fun o => ?_, q2⟩
      show f_X12_takesWords_4b (f_X12_takesWords_4 N) 225 (nI nw) v (nI i) m o = _
      rw [pre, fin, if_pos q]; exact q1 o
    · obtain ⟨m', r, q1, q2⟩ := nxt 0 (.inl rfl) ⟨fun z => absurd z (by decide), fun z => absurd z q⟩
      refine ⟨m', r, fun o => ?_, q2⟩
      show f_X12_takesWords_4b (f_X12_takesWords_4 N) 225 (nI nw) v (nI i) m o = _
      rw [pre, fin, if_neg q]; exact q1 o

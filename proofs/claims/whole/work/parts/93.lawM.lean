/-! ===== the other side's law reckoned ===== -/
def wkP (q _i : Nat) : Prop := q = 254 ∨ q = 255
theorem LetM_Fr {m m' : Mm} {l : Nat → Int32} (h : LetM m l) (hF : Fr wkP m m') : LetM m' l := fun m2 h2 j hj o => h m2 (Fr_trans hF h2) j hj o
def RwD (D : Nat → Nat → Int32) (m : Mm) : Prop := ∀ k x, k ≤ 5 → gI m (241 + k) x = D k x
theorem RwD_Fr {D : Nat → Nat → Int32} {P : Nat → Nat → Prop} {m m' : Mm} (h : RwD D m) (hF : Fr P m m') (hP : ∀ q x, 241 ≤ q → q ≤ 246 → ¬ P q x) : RwD D m' := fun k x hk => (Fr_at hF (hP _ x (by omega) (by omega))).trans (h k x hk)
theorem e_works {D : Nat → Nat → Int32} {i j : Nat} {V : (Nat → Int32) → Option Int32} (hD : RE D i j V) (hj : j ≤ 200) {m : Mm} (h : Sh m) (hR : RwD D m) {l : Nat → Int32} (hl : LetM m l) : ∃ m', (∀ o, F_X12_works 225 (nI i) (nI j) m o = ((), m', o)) ∧ Fr wkP m m' ∧ okV (V l) (gI m' 255 0) (gI m' 254 0) := by
  obtain ⟨hij, hD⟩ := hD
  obtain ⟨m', a1, a2, a3⟩ := hD m h (fun x _ _ => ⟨hR 4 x (by omega), hR 5 x (by omega)⟩) l hl j (1000 - (j - i)) 0 (by omega) hj (by omega)
  refine ⟨m', fun o => ?_, Fr_mono a2 (fun q x hq => hq.1), a3⟩
  have := a1 o
  rw [show 1000 - (j - i) + (j - i) = 1000 by omega, nI_0, show 1000 - (j - i) = (999 - (j - i)) + 1 by omega] at this
  show f_X12_works_5 1000 225 (nI j) 0 (nI i) m o = _
  rw [this]
  show f_X12_works_5b (f_X12_works_5 (999 - (j - i))) 225 (nI j) (nI (0 + 1)) (nI j) m' o = _
  unfold f_X12_works_5b
  rw [if_pos (nI_le (by omega) (by omega))]
def LwM (K : Nat → Int32) (D : Nat → Nat → Int32) (n : Nat) (T : Nat → (Nat → Int32) → Option Bool) (V : Nat → (Nat → Int32) → Option Int32) : Prop := n ≤ 14 ∧ ∀ k, k < n → ∃ ch s f t : Nat, ch < 128 ∧ K k = nI ch ∧ D 0 k = nI ch ∧ D 1 k = nI s ∧ D 2 k = nI f ∧ D 3 k = nI t ∧ t ≤ 200 ∧ RE D f t (tV (T k)) ∧ (ch ≠ 110 → RE D s f (V k))
theorem tV_ok {T : (Nat → Int32) → Option Bool} {l : Nat → Int32} {r w : Int32} (h : okV (tV T l) r w) : (r = 0 ∧ w = 1) ↔ T l = some true := by
  unfold tV at h
  obtain ⟨h1, h2⟩ := h
  cases hT : T l with
  | none =>
    rw [hT] at h2
    have := h2 rfl
    exact ⟨fun z => absurd (z.1.symm.trans this) (by decide), fun z => by cases z⟩
  | some b =>
    rw [hT] at h1
    obtain ⟨q1, q2⟩ := h1 (b2i b) rfl
    cases b
    · exact ⟨fun z => absurd (z.2.symm.trans q2) (by decide), fun z => by cases z⟩
    · exact ⟨fun _ => rfl, fun _ => ⟨q1, q2⟩⟩
theorem e_holds {K : Nat → Int32} {D : Nat → Nat → Int32} {n : Nat} {T : Nat → (Nat → Int32) → Option Bool} {V : Nat → (Nat → Int32) → Option Int32} (hL : LwM K D n T V) {k : Nat} (hk : k < n) {m : Mm} (h : Sh m) (hR : RwD D m) {l : Nat → Int32} (hl : LetM m l) : ∃ m' r, (∀ o, F_X12_holds 225 (nI k) m o = (r, m', o)) ∧ Fr wkP m m' ∧ (¬ r = 0 ↔ T k l = some true) := by
  have hn := hL.1
  obtain ⟨ch, s, f, t, hch, ek, e0, e1, e2, e3, ht, hRT, -⟩ := hL.2 k hk
  obtain ⟨m', a1, a2, a3⟩ := e_works hRT ht h hR hl
  have h' := Fr_Sh a2 h
  have x2 : gI m 243 k = nI f := (hR 2 k (by omega)).trans e2
  have x3 : gI m 244 k = nI t := (hR 3 k (by omega)).trans e3
  have hin : vp_in (nI k) 14 := vp_in_nI (by omega) (by omega)
  have i0 : vp_in (0 : Int32) 240 := vp_in_nI (n := 0) (by omega) (by omega)
  have x0 : ix (0 : Int32) = 0 := by decide
  have tv := tV_ok a3
  refine ⟨m', if gI m' 255 0 = 0 then (if gI m' 254 0 = 1 then 1 else 0) else 0, fun o => ?_, a2, ?_⟩
  · simp (config := {decide := true}) only [f_X12_holds_40, f_X12_holds_39, f_X12_holds_16, f_X12_holds_0, F_X12_holds, bnd, shT_225 h, shR_225_25 h, shR_225_26 h, shT_243 h, shN_243 h, shT_244 h, shN_244 h, shT_225 h', shR_225_47 h', shR_225_48 h', shT_254 h', shN_254 h', shT_255 h', shN_255 h', hin, ix_nI (show k < 2 ^ 31 by omega), x2, x3, a1, x0, i0, ne_eq, not_false_eq_true, and_self, and_true, true_and, and_false, false_and, true_or, or_true, false_or, or_false, not_true_eq_false, if_false, if_true]
    rcases Classical.propComplete (gI m' 255 0 = 0) with q1 | q1 <;> rcases Classical.propComplete (gI m' 254 0 = 1) with q2 | q2 <;> simp (config := {decide := true}) only [q1, q2, ne_eq, not_false_eq_true, and_self, and_true, true_and, and_false, false_and, true_or, or_true, false_or, or_false, not_true_eq_false, if_false, if_true]
  · rw [← tv]
    by_cases q1 : gI m' 255 0 = 0
    · by_cases q2 : gI m' 254 0 = 1
      · simp [q1, q2]
      · simp [q1, q2]
    · simp [q1]
theorem clpM {B : Nat} (hB : B < 2 ^ 31) (v : Int32) : clp (nI B) (some v) = if 0 ≤ v then (if v ≤ nI B then v else nI B) else 0 := by
  show (if 0 < (if v < nI B then v else nI B) then (if v < nI B then v else nI B) else 0) = _
  by_cases q : 0 ≤ v
  · rw [if_pos q]
    obtain ⟨j, hj, rfl⟩ := nI_of (x := v) (by rw [i32_nlt]; exact q)
    have e1 : (nI j < nI B) = (j < B) := propext (nI_ltI hj hB)
    have e2 : (nI j ≤ nI B) = (j ≤ B) := propext (nI_leI hj hB)
    have e3 : ∀ x, x < 2 ^ 31 → ((0 : Int32) < nI x) = (0 < x) := fun x hx => propext (nI_ltI (a := 0) (b := x) (by omega) hx)
    simp only [e1, e2]
    by_cases z : j < B
    · rw [if_pos z, if_pos (show j ≤ B by omega)]
      simp only [e3 j hj]
      by_cases z2 : 0 < j
      · rw [if_pos z2]
      · rw [if_neg z2, show j = 0 by omega]; rfl
    · rw [if_neg z]
      simp only [e3 B hB]
      by_cases z2 : 0 < B
      · rw [if_pos z2]
        by_cases z3 : j ≤ B
        · rw [if_pos z3, show j = B by omega]
        · rw [if_neg z3]
      · rw [if_neg z2]
        by_cases z3 : j ≤ B
        · rw [if_pos z3, show j = 0 by omega]; rfl
        · rw [if_neg z3, show B = 0 by omega]; rfl
  · rw [if_neg q]
    have q' : v < 0 := fa_of_nle q
    have z1 : v < nI B := fa_trans q' (nI_pos' hB)
    rw [if_pos z1, if_neg (fun z => (fa_of_lt q').2.2.1 z)]
theorem l_tells {K : Nat → Int32} {D : Nat → Nat → Int32} {n : Nat} {T : Nat → (Nat → Int32) → Option Bool} {V : Nat → (Nat → Int32) → Option Int32} (hL : LwM K D n T V) {ch B : Nat} (hch : ch ≠ 110 ∧ ch < 128) (hB : B < 2 ^ 31) {l : Nat → Int32} : ∀ (k N i : Nat) (m : Mm), Sh m → RwD D m → gI m 225 22 = nI n → LetM m l → i + k = n → k < N → ∃ m', (∀ o, f_X12_tells_2 N 225 (nI ch) (nI B) (nI i) m o = (fsV K T V (nI ch) (nI B) l i k, m', o)) ∧ Fr wkP m m' := by
  have hn14 := hL.1
  intro k
  induction k with
  | zero =>
    intro N i m h hR hn hl hi hN
    obtain ⟨N, rfl⟩ : ∃ N1, N = N1 + 1 := ⟨N - 1, by omega⟩
    have hle : nI n ≤ nI i := nI_le (by omega) (by omega)
    refine ⟨m, fun o => ?_, Fr_refl _ m⟩
    show f_X12_tells_2b (f_X12_tells_2 N) 225 (nI ch) (nI B) (nI i) m o = _
    simp (config := {decide := true}) only [f_X12_tells_2b, hn, hle, shT_225 h, fsV, ne_eq, not_false_eq_true, and_self, and_true, true_and, and_false, false_and, true_or, or_true, false_or, or_false, not_true_eq_false, if_false, if_true]
  | succ k ih =>
    intro N i m h hR hn hl hi hN
    obtain ⟨N, rfl⟩ : ∃ N1, N = N1 + 1 := ⟨N - 1, by omega⟩
    obtain ⟨cc, s, f, t, hcc, ek, e0, e1, e2, e3, ht, hRT, hRV⟩ := hL.2 i (by omega)
    have x0 : gI m 241 i = nI cc := (hR 0 i (by omega)).trans e0
    have hle : ¬ nI n ≤ nI i := nI_ge (by omega) (by omega)
    have hin : vp_in (nI i) 14 := vp_in_nI (by omega) (by omega)
    have hk0 : K i = nI ch ↔ cc = ch := by rw [ek]; exact nI_eq (by omega) (by omega)
    by_cases q : cc = ch
    · subst q
      obtain ⟨m1, r, a1, a2, a3⟩ := e_holds hL (k := i) (by omega) h hR hl
      have h1 := Fr_Sh a2 h
      have hR1 : RwD D m1 := RwD_Fr hR a2 (fun q x z1 z2 => by unfold wkP; omega)
      by_cases q2 : T i l = some true
      · have z1 := a3.mpr q2
        obtain ⟨m2, b1, b2, b3⟩ := e_works (hRV hch.1) (by have := hRT.1; omega) h1 hR1 (LetM_Fr hl a2)
        have h2 := Fr_Sh b2 h1
        have y1 : gI m1 242 i = nI s := (hR1 1 i (by omega)).trans e1
        have y2 : gI m1 243 i = nI f := (hR1 2 i (by omega)).trans e2
        have i0 : vp_in (0 : Int32) 240 := vp_in_nI (n := 0) (by omega) (by omega)
        have ix0 : ix (0 : Int32) = 0 := by decide
        refine ⟨m2, fun o => ?_, Fr_trans a2 b2⟩
        show f_X12_tells_2b (f_X12_tells_2 N) 225 (nI cc) (nI B) (nI i) m o = _
        rw [fsV, if_pos ⟨hk0.mpr rfl, q2⟩]
        simp (config := {decide := true}) only [f_X12_tells_2b, f_X12_tells_25, f_X12_tells_47, bnd, hn, hle, shT_225 h, shR_225_23 h, shT_241 h, shN_241 h, shT_225 h1, shR_225_24 h1, shR_225_25 h1, shT_242 h1, shN_242 h1, shT_243 h1, shN_243 h1, shT_225 h2, shR_225_47 h2, shR_225_48 h2, shT_254 h2, shN_254 h2, shT_255 h2, shN_255 h2, hin, ix_nI (show i < 2 ^ 31 by omega), x0, a1, z1, y1, y2, b1, ix0, i0, ne_eq, not_false_eq_true, and_self, and_true, true_and, and_false, false_and, true_or, or_true, false_or, or_false, not_true_eq_false, if_false, if_true]
        cases hV : V i l with
        | none =>
          have := b3.2 hV
          have h00 : (0 : Int32) ≤ 0 := by decide
          have h0B : (0 : Int32) ≤ nI B := nI_pos' hB
          simp (config := {decide := true}) only [this, f_X12_tells_66, f_X12_tells_89, clp, h00, h0B, ne_eq, not_false_eq_true, and_self, and_true, true_and, and_false, false_and, true_or, or_true, false_or, or_false, not_true_eq_false, if_false, if_true]
        | some v =>
          obtain ⟨c1, c2⟩ := b3.1 v hV
          simp (config := {decide := true}) only [c1, c2, f_X12_tells_66, f_X12_tells_89, clpM hB, ne_eq, not_false_eq_true, and_self, and_true, true_and, and_false, false_and, true_or, or_true, false_or, or_false, not_true_eq_false, if_false, if_true]
          by_cases y : 0 ≤ v
          · rw [if_pos y, if_pos y]
            by_cases y2 : v ≤ nI B
            · rw [if_pos y2, if_pos y2]
            · rw [if_neg y2, if_neg y2]
          · rw [if_neg y, if_neg y]
      · have z1 : r = 0 := Classical.not_not.mp (fun z => q2 (a3.mp z))
        obtain ⟨m2, b1, b2⟩ := ih N (i + 1) m1 h1 hR1 ((Fr_at a2 (by unfold wkP; omega)).trans hn) (LetM_Fr hl a2) (by omega) (by omega)
        refine ⟨m2, fun o => ?_, Fr_trans a2 b2⟩
        show f_X12_tells_2b (f_X12_tells_2 N) 225 (nI cc) (nI B) (nI i) m o = _
        rw [fsV, if_neg (fun z => q2 z.2)]
        simp (config := {decide := true}) only [f_X12_tells_2b, f_X12_tells_25, f_X12_tells_90, bnd, hn, hle, shT_225 h, shR_225_23 h, shT_241 h, shN_241 h, shT_225 h1, hin, ix_nI (show i < 2 ^ 31 by omega), x0, a1, z1, nI_1, ne_eq, not_false_eq_true, and_self, and_true, true_and, and_false, false_and, true_or, or_true, false_or, or_false, not_true_eq_false, if_false, if_true]
        exact b1 o
    · obtain ⟨m2, b1, b2⟩ := ih N (i + 1) m h hR hn hl (by omega) (by omega)
      refine ⟨m2, fun o => ?_, b2⟩
      have hne : ¬ nI cc = nI ch := fun z => q ((nI_eq (by omega) (by omega)).mp z)
      show f_X12_tells_2b (f_X12_tells_2 N) 225 (nI ch) (nI B) (nI i) m o = _
      rw [fsV, if_neg (fun z => q (hk0.mp z.1))]
      simp (config := {decide := true}) only [f_X12_tells_2b, f_X12_tells_90, hn, hle, shT_225 h, shR_225_23 h, shT_241 h, shN_241 h, hin, ix_nI (show i < 2 ^ 31 by omega), x0, hne, nI_1, ne_eq, not_false_eq_true, and_self, and_true, true_and, and_false, false_and, true_or, or_true, false_or, or_false, not_true_eq_false, if_false, if_true]
      exact b1 o
theorem l_wouldM {K : Nat → Int32} {D : Nat → Nat → Int32} {n : Nat} {T : Nat → (Nat → Int32) → Option Bool} {V : Nat → (Nat → Int32) → Option Int32} (hL : LwM K D n T V) {l : Nat → Int32} : ∀ (k N i : Nat) (m : Mm), Sh m → RwD D m → gI m 225 22 = nI n → LetM m l → i + k = n → k < N → ∃ m', (∀ o, f_X12_wouldEat_12 N 225 (nI i) m o = (if anN K T l i k then 0 else fsV K T V 101 999 l 0 n, m', o)) ∧ Fr wkP m m' := by
  have hn14 := hL.1
  intro k
  induction k with
  | zero =>
    intro N i m h hR hn hl hi hN
    obtain ⟨N, rfl⟩ : ∃ N1, N = N1 + 1 := ⟨N - 1, by omega⟩
    have hle : nI n ≤ nI i := nI_le (by omega) (by omega)
    obtain ⟨m', a1, a2⟩ := l_tells hL (ch := 101) (B := 999) ⟨by omega, by omega⟩ (by omega) n 1000 0 m h hR hn hl (by omega) (by omega)
    rw [nI_0] at a1
    have a1 : ∀ o, F_X12_tells 225 101 999 m o = (fsV K T V 101 999 l 0 n, m', o) := a1
    refine ⟨m', fun o => ?_, a2⟩
    show f_X12_wouldEat_12b (f_X12_wouldEat_12 N) 225 (nI i) m o = _
    simp (config := {decide := true}) only [f_X12_wouldEat_12b, f_X12_wouldEat_56, bnd, hn, hle, shT_225 h, a1, anN, ne_eq, not_false_eq_true, and_self, and_true, true_and, and_false, false_and, true_or, or_true, false_or, or_false, not_true_eq_false, if_false, if_true]
  | succ k ih =>
    intro N i m h hR hn hl hi hN
    obtain ⟨N, rfl⟩ : ∃ N1, N = N1 + 1 := ⟨N - 1, by omega⟩
    obtain ⟨cc, s, f, t, hcc, ek, e0, e1, e2, e3, ht, hRT, hRV⟩ := hL.2 i (by omega)
    have x0 : gI m 241 i = nI cc := (hR 0 i (by omega)).trans e0
    have hle : ¬ nI n ≤ nI i := nI_ge (by omega) (by omega)
    have hin : vp_in (nI i) 14 := vp_in_nI (by omega) (by omega)
    have hk0 : K i = 110 ↔ cc = 110 := by rw [ek]; exact nI_eq (a := cc) (b := 110) (by omega) (by omega)
    by_cases q : cc = 110
    · subst q
      have e110 : nI 110 = 110 := rfl
      obtain ⟨m1, r, a1, a2, a3⟩ := e_holds hL (k := i) (by omega) h hR hl
      have h1 := Fr_Sh a2 h
      have hR1 : RwD D m1 := RwD_Fr hR a2 (fun q x z1 z2 => by unfold wkP; omega)
      by_cases q2 : T i l = some true
      · have z1 := a3.mpr q2
        refine ⟨m1, fun o => ?_, a2⟩
        show f_X12_wouldEat_12b (f_X12_wouldEat_12 N) 225 (nI i) m o = _
        rw [show anN K T l i (k + 1) = true from by rw [anN]; exact if_pos ⟨hk0.mpr rfl, q2⟩]
        simp (config := {decide := true}) only [f_X12_wouldEat_12b, f_X12_wouldEat_36, bnd, hn, hle, shT_225 h, shR_225_23 h, shT_241 h, shN_241 h, shT_225 h1, hin, ix_nI (show i < 2 ^ 31 by omega), x0, e110, a1, z1, ne_eq, not_false_eq_true, and_self, and_true, true_and, and_false, false_and, true_or, or_true, false_or, or_false, not_true_eq_false, if_false, if_true]
      · have z1 : r = 0 := Classical.not_not.mp (fun z => q2 (a3.mp z))
        obtain ⟨m2, b1, b2⟩ := ih N (i + 1) m1 h1 hR1 ((Fr_at a2 (by unfold wkP; omega)).trans hn) (LetM_Fr hl a2) (by omega) (by omega)
        refine ⟨m2, fun o => ?_, Fr_trans a2 b2⟩
        show f_X12_wouldEat_12b (f_X12_wouldEat_12 N) 225 (nI i) m o = _
        rw [show anN K T l i (k + 1) = anN K T l (i + 1) k from by rw [anN]; exact if_neg (fun z => q2 z.2)]
        simp (config := {decide := true}) only [f_X12_wouldEat_12b, f_X12_wouldEat_36, f_X12_wouldEat_41, bnd, hn, hle, shT_225 h, shR_225_23 h, shT_241 h, shN_241 h, shT_225 h1, hin, ix_nI (show i < 2 ^ 31 by omega), x0, e110, a1, z1, nI_1, ne_eq, not_false_eq_true, and_self, and_true, true_and, and_false, false_and, true_or, or_true, false_or, or_false, not_true_eq_false, if_false, if_true]
        exact b1 o
    · obtain ⟨m2, b1, b2⟩ := ih N (i + 1) m h hR hn hl (by omega) (by omega)
      refine ⟨m2, fun o => ?_, b2⟩
      have hne : ¬ nI cc = 110 := fun z => q ((nI_eq (a := cc) (b := 110) (by omega) (by omega)).mp z)
      show f_X12_wouldEat_12b (f_X12_wouldEat_12 N) 225 (nI i) m o = _
      rw [show anN K T l i (k + 1) = anN K T l (i + 1) k from by rw [anN]; exact if_neg (fun z => q (hk0.mp z.1))]
      simp (config := {decide := true}) only [f_X12_wouldEat_12b, f_X12_wouldEat_41, hn, hle, shT_225 h, shR_225_23 h, shT_241 h, shN_241 h, hin, ix_nI (show i < 2 ^ 31 by omega), x0, hne, nI_1, ne_eq, not_false_eq_true, and_self, and_true, true_and, and_false, false_and, true_or, or_true, false_or, or_false, not_true_eq_false, if_false, if_true]
      exact b1 o
/-! the other side's letters -/
theorem MM_C {m : Mm} {a : Nat → Nat → Int32} {n c e : Nat} {d : Nat → Int32} (hE : MM m a n c d) (he : e < c) : gI m 234 e = 10 * a (31 + 2 * e) 1 + a (31 + 2 * e) 0 ∧ gI m 235 e = a (31 + 2 * e) 2 ∧ gI m 236 e = a (31 + 2 * e) 3 ∧ gI m 237 e = a (31 + 2 * e) 4 ∧ ∀ j, j < 5 → gI m 238 (5 * e + j) = a (32 + 2 * e) j := by
  have := hE.1.2.1 e he
  simp only [eC, Nat.mul_zero, Nat.zero_add] at this
  exact this
theorem e_valS {m : Mm} (h : Sh m) {a : Nat → Nat → Int32} {n c : Nat} {d : Nat → Int32} (hE : MM m a n c d) (hW : WfA a n c) {s : Nat} (hs : s < n) (h45 : gI m 225 45 = nI s) {j : Nat} (hj : j < 6) (o : Prop) : F_X12_valueOf 225 (lch j) m o = (lts a s j, m, o) := by
  have hn := hW.1.1.1
  obtain ⟨s0, s1, s2, s3, s4, s5, s6⟩ := MM_at hE hs
  obtain ⟨n0, n1, n2, n3, n4, n5⟩ := hE.2
  have n2 : gI m 225 4 = a 0 10 := n2
  have n3 : gI m 225 6 = a 0 8 := n3
  have n4 : a 0 8 ≠ -1 → gI m 225 7 = a 0 9 := n4
  have hin : vp_in (nI s) 12 := vp_in_nI (by omega) (by omega)
  have : j = 0 ∨ j = 1 ∨ j = 2 ∨ j = 3 ∨ j = 4 ∨ j = 5 := by omega
  rcases this with rfl | rfl | rfl | rfl | rfl | rfl
  · simp (config := {decide := true}) only [f_X12_valueOf_161, f_X12_valueOf_160, f_X12_valueOf_179, f_X12_valueOf_0, F_X12_valueOf, lch, lts, h45, hin, ix_nI (show s < 2 ^ 31 by omega), shT_225 h, shR_225_10 h, shT_229 h, shN_229 h, s2, ne_eq, not_false_eq_true, and_self, and_true, true_and, and_false, false_and, true_or, or_true, false_or, or_false, not_true_eq_false, if_false, if_true]
  · simp (config := {decide := true}) only [f_X12_valueOf_161, f_X12_valueOf_160, f_X12_valueOf_179, f_X12_valueOf_0, F_X12_valueOf, lch, lts, h45, hin, ix_nI (show s < 2 ^ 31 by omega), shT_225 h, shR_225_11 h, shT_230 h, shN_230 h, s3, ne_eq, not_false_eq_true, and_self, and_true, true_and, and_false, false_and, true_or, or_true, false_or, or_false, not_true_eq_false, if_false, if_true]
  · simp (config := {decide := true}) only [f_X12_valueOf_161, f_X12_valueOf_160, f_X12_valueOf_179, f_X12_valueOf_0, F_X12_valueOf, lch, lts, h45, hin, ix_nI (show s < 2 ^ 31 by omega), shT_225 h, shR_225_12 h, shT_231 h, shN_231 h, s4, ne_eq, not_false_eq_true, and_self, and_true, true_and, and_false, false_and, true_or, or_true, false_or, or_false, not_true_eq_false, if_false, if_true]
  · simp (config := {decide := true}) only [f_X12_valueOf_161, f_X12_valueOf_160, f_X12_valueOf_179, f_X12_valueOf_0, F_X12_valueOf, lch, lts, h45, hin, ix_nI (show s < 2 ^ 31 by omega), shT_225 h, shR_225_13 h, shT_232 h, shN_232 h, s5, ne_eq, not_false_eq_true, and_self, and_true, true_and, and_false, false_and, true_or, or_true, false_or, or_false, not_true_eq_false, if_false, if_true]
  · simp (config := {decide := true}) only [f_X12_valueOf_161, f_X12_valueOf_160, f_X12_valueOf_179, f_X12_valueOf_0, F_X12_valueOf, lch, lts, h45, hin, ix_nI (show s < 2 ^ 31 by omega), shT_225 h, shR_225_9 h, shT_228 h, shN_228 h, s1, ne_eq, not_false_eq_true, and_self, and_true, true_and, and_false, false_and, true_or, or_true, false_or, or_false, not_true_eq_false, if_false, if_true]
  · simp (config := {decide := true}) only [f_X12_valueOf_161, f_X12_valueOf_160, f_X12_valueOf_179, f_X12_valueOf_0, F_X12_valueOf, lch, lts, sal, h45, n2, n3, shT_225 h, ne_eq, not_false_eq_true, and_self, and_true, true_and, and_false, false_and, true_or, or_true, false_or, or_false, not_true_eq_false, if_false, if_true]
    by_cases q : a 0 8 = nI s
    · have n4 := n4 (by rw [q]; exact nI_ne_m1 (by omega))
      rw [if_pos q, if_pos q.symm, n4]
      by_cases q2 : a 0 10 < a 0 9
      · rw [if_pos q2, if_pos q2]
      · rw [if_neg q2, if_neg q2]
    · rw [if_neg q, if_neg (fun z => q z.symm)]
theorem e_valC {m : Mm} (h : Sh m) {a : Nat → Nat → Int32} {n c : Nat} {d : Nat → Int32} (hE : MM m a n c d) (hW : WfA a n c) {s e : Nat} (hs : s < n) (he : e < c) (h45 : gI m 225 45 = nI s) (h46 : gI m 225 46 = nI e) {j : Nat} (h6 : 6 ≤ j) (hj : j < 10) (o : Prop) : F_X12_valueOf 225 (lch j) m o = (ltc a s e j, m, o) := by
  have hn := hW.1.1.1
  have hc := hW.1.1.2
  obtain ⟨s0, s1, s2, s3, s4, s5, s6⟩ := MM_at hE hs
  obtain ⟨c0, c1, c2, c3, c4⟩ := MM_C hE he
  have hin1 : vp_in (nI s) 12 := vp_in_nI (by omega) (by omega)
  have hin2 : vp_in (nI e) 16 := vp_in_nI (by omega) (by omega)
  have hm1 : ¬ nI e = -1 := nI_ne_m1 (by omega)
  obtain ⟨⟨x, hx, ex⟩, ⟨y, hy, ey⟩, ⟨k, hk, ek⟩, -⟩ := hW.2.1 s hs
  obtain ⟨⟨x', hx', ex'⟩, ⟨y', hy', ey'⟩, -⟩ := hW.2.2.2.1 e he
  have : j = 6 ∨ j = 7 ∨ j = 8 ∨ j = 9 := by omega
  rcases this with rfl | rfl | rfl | rfl
  · have hin3 : vp_in (nI (5 * e + k)) 80 := vp_in_nI (by omega) (by omega)
    simp (config := {decide := true}) only [f_X12_valueOf_161, f_X12_valueOf_160, f_X12_valueOf_179, f_X12_valueOf_0, F_X12_valueOf, f_X12_ofCow_79, f_X12_ofCow_0, F_X12_ofCow, bnd, lch, ltc, h45, h46, hm1, hin1, ix_nI (show s < 2 ^ 31 by omega), shT_225 h, shR_225_9 h, shR_225_19 h, shT_228 h, shN_228 h, shT_238 h, shN_238 h, s1, ek, (show (5 : Int32) * nI (e) = nI (5 * e) by rw [show (5 : Int32) = nI 5 from rfl, pk_mul]), nI_add, ix_nI (show 5 * e + k < 2 ^ 31 by omega), ix_nI (show k < 2 ^ 31 by omega), hin3, c4 k (by omega), ne_eq, not_false_eq_true, and_self, and_true, true_and, and_false, false_and, true_or, or_true, false_or, or_false, not_true_eq_false, if_false, if_true]
  · rw [ey', ex'] at c0
    rw [ey, ex] at s0
    simp (config := {decide := true}) only [f_X12_valueOf_161, f_X12_valueOf_160, f_X12_valueOf_179, f_X12_valueOf_0, F_X12_valueOf, f_X12_ofCow_79, f_X12_ofCow_0, F_X12_ofCow, bnd, lch, ltc, h45, h46, hm1, hin1, hin2, ix_nI (show s < 2 ^ 31 by omega), ix_nI (show e < 2 ^ 31 by omega), shT_225 h, shR_225_8 h, shR_225_15 h, shT_227 h, shN_227 h, shT_234 h, shN_234 h, c0, s0, e_wayOf hx' hy' hx hy, ex, ey, ex', ey', ne_eq, not_false_eq_true, and_self, and_true, true_and, and_false, false_and, true_or, or_true, false_or, or_false, not_true_eq_false, if_false, if_true]
  · simp (config := {decide := true}) only [f_X12_valueOf_161, f_X12_valueOf_160, f_X12_valueOf_179, f_X12_valueOf_0, F_X12_valueOf, f_X12_ofCow_79, f_X12_ofCow_0, F_X12_ofCow, bnd, lch, ltc, h46, hm1, hin2, ix_nI (show e < 2 ^ 31 by omega), shT_225 h, shR_225_16 h, shT_235 h, shN_235 h, c1, ne_eq, not_false_eq_true, and_self, and_true, true_and, and_false, false_and, true_or, or_true, false_or, or_false, not_true_eq_false, if_false, if_true]
  · simp (config := {decide := true}) only [f_X12_valueOf_161, f_X12_valueOf_160, f_X12_valueOf_179, f_X12_valueOf_0, F_X12_valueOf, f_X12_ofCow_79, f_X12_ofCow_0, F_X12_ofCow, bnd, lch, ltc, h46, hm1, hin2, ix_nI (show e < 2 ^ 31 by omega), shT_225 h, shR_225_17 h, shT_236 h, shN_236 h, c2, ne_eq, not_false_eq_true, and_self, and_true, true_and, and_false, false_and, true_or, or_true, false_or, or_false, not_true_eq_false, if_false, if_true]
theorem LetM_E {m : Mm} (h : Sh m) {a : Nat → Nat → Int32} {n c : Nat} {d : Nat → Int32} (hE : MM m a n c d) (hW : WfA a n c) {s e : Nat} (hs : s < n) (he : e < c) (h45 : gI m 225 45 = nI s) (h46 : gI m 225 46 = nI e) : LetM m (letE a s e) := fun m' hF j hj o => by
  have h' := Fr_Sh hF h
  have hE' : MM m' a n c d := MM_frame hE (fun q i hq => Fr_at hF (by omega))
  have g45 : gI m' 225 45 = nI s := (Fr_at hF (by omega)).trans h45
  have g46 : gI m' 225 46 = nI e := (Fr_at hF (by omega)).trans h46
  unfold letE
  by_cases q : j < 6
  · rw [if_pos q]; exact e_valS h' hE' hW hs g45 q o
  · rw [if_neg q]; exact e_valC h' hE' hW hs he g45 g46 (by omega) hj o
theorem LetM_G {m : Mm} (h : Sh m) {a : Nat → Nat → Int32} {n c : Nat} {d : Nat → Int32} (hE : MM m a n c d) (hW : WfA a n c) {s : Nat} (hs : s < n) (h45 : gI m 225 45 = nI s) (h46 : gI m 225 46 = -1) : LetM m (letG a s) := fun m' hF j hj o => by
  have h' := Fr_Sh hF h
  have hE' : MM m' a n c d := MM_frame hE (fun q i hq => Fr_at hF (by omega))
  have g45 : gI m' 225 45 = nI s := (Fr_at hF (by omega)).trans h45
  have g46 : gI m' 225 46 = -1 := (Fr_at hF (by omega)).trans h46
  unfold letG
  by_cases q : j < 6
  · rw [if_pos q]; exact e_valS h' hE' hW hs g45 q o
  · rw [if_neg q]
    have : j = 6 ∨ j = 7 ∨ j = 8 ∨ j = 9 := by omega
    rcases this with rfl | rfl | rfl | rfl <;> simp (config := {decide := true}) only [f_X12_valueOf_161, f_X12_valueOf_160, f_X12_valueOf_179, f_X12_valueOf_0, F_X12_valueOf, lch, g46, shT_225 h', ne_eq, not_false_eq_true, and_self, and_true, true_and, and_false, false_and, true_or, or_true, false_or, or_false, not_true_eq_false, if_false, if_true]
def lawM (m : Mm) (D : Nat → Nat → Int32) (n : Nat) : Prop := RwD D m ∧ gI m 225 22 = nI n
theorem lawM_Fr {P : Nat → Nat → Prop} {m m' : Mm} {D : Nat → Nat → Int32} {n : Nat} (h : lawM m D n) (hF : Fr P m m') (hP : ∀ q x, (241 ≤ q ∧ q ≤ 246) ∨ (q = 225 ∧ x = 22) → ¬ P q x) : lawM m' D n := ⟨RwD_Fr h.1 hF (fun q x z1 z2 => hP q x (.inl ⟨z1, z2⟩)), (Fr_at hF (hP 225 22 (.inr ⟨rfl, rfl⟩))).trans h.2⟩
/-- what a look at the other's law may change -/
def lmP (q i : Nat) : Prop := q = 254 ∨ q = 255 ∨ (q = 225 ∧ (i = 45 ∨ i = 46))
theorem e_wouldEatM {C D : Nat → Nat → Int32} {nl : Nat} {T : Nat → (Nat → Int32) → Option Bool} {V : Nat → (Nat → Int32) → Option Int32} (hL : LwM (C 3) D nl T V) {m : Mm} (h : Sh m) (hA : lawM m D nl) {a : Nat → Nat → Int32} {n c : Nat} {d : Nat → Int32} (hE : MM m a n c d) (hW : WfA a n c) {s e : Nat} (hs : s < n) (he : e < c) : ∃ m', (∀ o, F_X12_wouldEat 225 (nI e) (nI s) m o = (Ev C nl T V (letE a s e), m', o)) ∧ Fr lmP m m' := by
  have hn14 := hL.1
  have hF : Fr lmP m (sI (sI m 225 45 (nI s)) 225 46 (nI e)) := by
    refine Fr_sI (Fr_sI (Fr_refl _ m) ?_ _) ?_ _ <;> unfold lmP <;> omega
  have h1 := Fr_Sh hF h
  have hE1 : MM (sI (sI m 225 45 (nI s)) 225 46 (nI e)) a n c d := MM_frame hE (fun q i hq => Fr_at hF (by unfold lmP; omega))
  have hA1 := lawM_Fr hA hF (fun q x hq => by unfold lmP; omega)
  obtain ⟨m', a1, a2⟩ := l_wouldM hL nl 1000 0 _ h1 hA1.1 hA1.2 (LetM_E h1 hE1 hW hs he rfl rfl) (by omega) (by omega)
  rw [nI_0] at a1
  refine ⟨m', fun o => ?_, Fr_trans hF (Fr_mono a2 (fun q i hq => by unfold wkP at hq; unfold lmP; omega))⟩
  unfold Ev
  simp (config := {decide := true}) only [f_X12_wouldEat_41, f_X12_wouldEat_36, f_X12_wouldEat_56, f_X12_wouldEat_10, f_X12_wouldEat_5, f_X12_wouldEat_0, F_X12_wouldEat, shT_225 h, gT_sI, a1, ne_eq, not_false_eq_true, and_self, and_true, true_and, and_false, false_and, true_or, or_true, false_or, or_false, not_true_eq_false, if_false, if_true]
theorem e_tellsG {C D : Nat → Nat → Int32} {nl : Nat} {T : Nat → (Nat → Int32) → Option Bool} {V : Nat → (Nat → Int32) → Option Int32} (hL : LwM (C 3) D nl T V) {m : Mm} (h : Sh m) (hA : lawM m D nl) {a : Nat → Nat → Int32} {n c : Nat} {d : Nat → Int32} (hE : MM m a n c d) (hW : WfA a n c) {s : Nat} (hs : s < n) (h45 : gI m 225 45 = nI s) (h46 : gI m 225 46 = -1) : ∃ m', (∀ o, F_X12_tells 225 103 99 m o = (Gv C nl T V (letG a s), m', o)) ∧ Fr wkP m m' := by
  have hn14 := hL.1
  obtain ⟨m', a1, a2⟩ := l_tells hL (ch := 103) (B := 99) ⟨by omega, by omega⟩ (by omega) nl 1000 0 m h hA.1 hA.2 (LetM_G h hE hW hs h45 h46) (by omega) (by omega)
  rw [nI_0] at a1
  exact ⟨m', a1, a2⟩
/-- out of the common state: what both sides have of the law -/
theorem law_of_Rel {m : Mm} (hR : Rel m) : ∃ (C D : Nat → Nat → Int32) (nl : Nat) (T : Nat → (Nat → Int32) → Option Bool) (V : Nat → (Nat → Int32) → Option Int32), lawAt m (gR m 1 9) C nl ∧ lawM m D nl ∧ LwF C nl T V ∧ LwM (C 3) D nl T V ∧ (∀ j, j < 10 → C 8 j = 0 ∨ C 8 j = -1) ∧ ∀ k, k < nl → ∃ ch, C 3 k = nI ch ∧ ch < 128 ∧ (ch ≠ 103 → dep (C 8) (T k) ∧ (ch ≠ 110 → dep (C 8) (V k))) := by
  obtain ⟨n, hn, e1, e2, hm, T, V, hk⟩ := hR.2.2.2.2.2.2
  have hw : isW (gR m 1 9) := by rcases hR.2.1 with ⟨e, -⟩ | ⟨e, -⟩ <;> rw [e]; exact .inl rfl; exact .inr rfl
  refine ⟨fun k i => if 1 ≤ k ∧ k ≤ 8 ∧ k ≠ 7 then gI m (gR m 1 9 + k) i else 0, fun k i => if k ≤ 5 then gI m (241 + k) i else 0, n, T, V, ⟨hw, fun k x h1 h2 h3 => ?_, e1⟩, ⟨fun k x h1 => ?_, e2⟩, ⟨⟨hn, fun k hk' => ?_⟩, fun k hk' => ?_, fun k hk' => ?_⟩, ⟨hn, fun k hk' => ?_⟩, hm, fun k hk' => ?_⟩
  · exact (if_pos ⟨h1, h2, h3⟩).symm
  · exact (if_pos h1).symm
  · obtain ⟨ch, vs, cs, ce, s, f, t, q1, q2, q3, q4, q5, q6, q7, q8, q9, q10, q11, q12, q13, q14, q15, q16, q17⟩ := hk k hk'
    exact ⟨ch, vs, cs, ce, by omega, q2, q4, q5, q6, q10, q12, fun z => by obtain ⟨d, hd, hE, -⟩ := q14 z; exact ⟨d, hd, hE⟩⟩
  · obtain ⟨ch, vs, cs, ce, s, f, t, q1, q2, q3, q4, q5, q6, q7, q8, q9, q10, q11, q12, q13, q14, q15, q16, q17⟩ := hk k hk'
    exact q15
  · obtain ⟨ch, vs, cs, ce, s, f, t, q1, q2, q3, q4, q5, q6, q7, q8, q9, q10, q11, q12, q13, q14, q15, q16, q17⟩ := hk k hk'
    exact q16
  · obtain ⟨ch, vs, cs, ce, s, f, t, q1, q2, q3, q4, q5, q6, q7, q8, q9, q10, q11, q12, q13, q14, q15, q16, q17⟩ := hk k hk'
    exact ⟨ch, s, f, t, by omega, q2, q3, q7, q8, q9, q11, q13, fun z => by obtain ⟨d, hd, hE, hE2⟩ := q14 z; exact hE2⟩
  · obtain ⟨ch, vs, cs, ce, s, f, t, q1, q2, q3, q4, q5, q6, q7, q8, q9, q10, q11, q12, q13, q14, q15, q16, q17⟩ := hk k hk'
    exact ⟨ch, q2, by omega, q17⟩

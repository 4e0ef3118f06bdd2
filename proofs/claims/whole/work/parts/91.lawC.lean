/-! ===== the class's law reckoned ===== -/
def isW (w : Nat) : Prop := w = 205 ∨ w = 215
theorem w_sh {m : Mm} (h : Sh m) {w : Nat} (hw : isW w) : gT m w = 4 ∧ gR m w 0 = w + 1 ∧ gR m w 1 = w + 2 ∧ gR m w 2 = w + 3 ∧ gR m w 3 = w + 4 ∧ gR m w 4 = w + 5 ∧ gR m w 5 = w + 6 ∧ gR m w 6 = w + 7 ∧ gR m w 7 = w + 8 ∧ gR m w 8 = w + 9 := by
  rcases hw with rfl | rfl
  · exact ⟨shT_205 h, shR_205_0 h, shR_205_1 h, shR_205_2 h, shR_205_3 h, shR_205_4 h, shR_205_5 h, shR_205_6 h, shR_205_7 h, shR_205_8 h⟩
  · exact ⟨shT_215 h, shR_215_0 h, shR_215_1 h, shR_215_2 h, shR_215_3 h, shR_215_4 h, shR_215_5 h, shR_215_6 h, shR_215_7 h, shR_215_8 h⟩
theorem w_T {m : Mm} (h : Sh m) {w : Nat} (hw : isW w) : gT m (w + 1) = 20 ∧ gT m (w + 2) = 20 ∧ gT m (w + 3) = 20 ∧ gT m (w + 4) = 20 ∧ gT m (w + 5) = 20 ∧ gT m (w + 6) = 20 ∧ gT m (w + 7) = 20 ∧ gT m (w + 8) = 20 ∧ gT m (w + 9) = 20 := by
  rcases hw with rfl | rfl
  · exact ⟨shT_206 h, shT_207 h, shT_208 h, shT_209 h, shT_210 h, shT_211 h, shT_212 h, shT_213 h, shT_214 h⟩
  · exact ⟨shT_216 h, shT_217 h, shT_218 h, shT_219 h, shT_220 h, shT_221 h, shT_222 h, shT_223 h, shT_224 h⟩
theorem w_N {m : Mm} (h : Sh m) {w : Nat} (hw : isW w) : gN m (w + 1) = 200 ∧ gN m (w + 2) = 200 ∧ gN m (w + 3) = 14 ∧ gN m (w + 4) = 14 ∧ gN m (w + 5) = 14 ∧ gN m (w + 6) = 14 ∧ gN m (w + 7) = 10 ∧ gN m (w + 8) = 10 ∧ gN m (w + 9) = 32 := by
  rcases hw with rfl | rfl
  · exact ⟨shN_206 h, shN_207 h, shN_208 h, shN_209 h, shN_210 h, shN_211 h, shN_212 h, shN_213 h, shN_214 h⟩
  · exact ⟨shN_216 h, shN_217 h, shN_218 h, shN_219 h, shN_220 h, shN_221 h, shN_222 h, shN_223 h, shN_224 h⟩
/-- the rows of the law at w are C -/
def RwC (w : Nat) (C : Nat → Nat → Int32) (m : Mm) : Prop := ∀ k x, 1 ≤ k → k ≤ 8 → k ≠ 7 → gI m (w + k) x = C k x
theorem RwC_Fr {w : Nat} {C : Nat → Nat → Int32} {P : Nat → Nat → Prop} {m m' : Mm} (h : RwC w C m) (hF : Fr P m m') (hP : ∀ k x, 1 ≤ k → k ≤ 8 → k ≠ 7 → ¬ P (w + k) x) : RwC w C m' := fun k x h1 h2 h3 => (Fr_at hF (hP k x h1 h2 h3)).trans (h k x h1 h2 h3)
theorem rk_end {m : Mm} (h : Sh m) {w : Nat} (hw : isW w) (N to : Nat) (ht : to ≤ 200) (top ly : Int32) (st : Nat) (hs : st ≤ 200) (o : Prop) : f_X3_reckon_11 (N + 1) w (nI to) top ly (nI to) (nI st) m o = (1, sI m w 12 top, o) := by
  obtain ⟨t0, -⟩ := w_sh h hw
  show f_X3_reckon_11b (f_X3_reckon_11 N) w (nI to) top ly (nI to) (nI st) m o = _
  have hle : nI to ≤ nI to := nI_le (by omega) (by omega)
  simp (config := {decide := true}) only [f_X3_reckon_11b, f_X3_reckon_410, f_X3_reckon_415, hle, t0, ite_self, ne_eq, not_false_eq_true, and_self, and_true, true_and, and_false, false_and, true_or, or_true, false_or, or_false, not_true_eq_false, if_false, if_true]
theorem e_reckonT {C : Nat → Nat → Int32} {i j : Nat} {T : (Nat → Int32) → Option Bool} (hC : CC C i j T) (hj : j ≤ 200) {w : Nat} (hw : isW w) {m : Mm} (h : Sh m) (hR : RwC w C m) : ∃ m' r, (∀ o, F_X3_reckon w (nI i) (nI j) m o = (r, m', o)) ∧ Fr (rkP w) m m' ∧ ((¬ r = 0 ∧ ¬ gI m' w 11 = 0) ↔ T (gI m (w + 7)) = some true) := by
  obtain ⟨hij, hC⟩ := hC
  obtain ⟨c1, c2⟩ := hC w m hw h (fun x _ _ => ⟨hR 1 x (by omega) (by omega) (by omega), hR 2 x (by omega) (by omega) (by omega)⟩) j (1000 - (j - i)) 0 0 (by omega) hj (by omega)
  rw [show 1000 - (j - i) + (j - i) = 1000 by omega, nI_0] at c1 c2
  cases hT : T (gI m (w + 7)) with
  | none =>
    obtain ⟨m', a1, a2⟩ := c2 hT
    exact ⟨m', 0, a1, a2, ⟨fun z => absurd rfl z.1, fun z => by cases z⟩⟩
  | some b =>
    obtain ⟨m', k, top', hk, a1, a2, a3⟩ := c1 b hT
    have h' := Fr_Sh a2 h
    refine ⟨sI m' w 12 top', 1, fun o => ?_, Fr_sI a2 (.inl ⟨rfl, .inr rfl⟩) _, ?_⟩
    · show f_X3_reckon_11 1000 w (nI j) 0 0 (nI i) 0 m o = _
      rw [a1, show 1000 - k = (999 - k) + 1 by omega]
      exact rk_end h' hw _ j hj _ _ _ (by omega) o
    · rw [gI_sI, if_neg (by omega), a3]
      cases b <;> decide
theorem e_reckonE {C : Nat → Nat → Int32} {i j d : Nat} {V : (Nat → Int32) → Option Int32} (hC : EC C i j d V) (hd : d ≤ 32) (hj : j ≤ 200) {w : Nat} (hw : isW w) {m : Mm} (h : Sh m) (hR : RwC w C m) : ∃ m' r, (∀ o, F_X3_reckon w (nI i) (nI j) m o = (r, m', o)) ∧ Fr (rkP w) m m' ∧ ((V (gI m (w + 7)) = none ∧ r = 0) ∨ (∃ v, V (gI m (w + 7)) = some v ∧ r = 1 ∧ gI m' w 12 = v)) := by
  obtain ⟨hij, hC⟩ := hC
  obtain ⟨c1, c2⟩ := hC w m hw h (fun x _ _ => ⟨hR 1 x (by omega) (by omega) (by omega), hR 2 x (by omega) (by omega) (by omega)⟩) j (1000 - (j - i)) 0 0 0 (by omega) hj (by omega) (by omega)
  rw [show 1000 - (j - i) + (j - i) = 1000 by omega, nI_0] at c1 c2
  cases hT : V (gI m (w + 7)) with
  | none =>
    obtain ⟨m', a1, a2⟩ := c2 hT
    exact ⟨m', 0, a1, a2, .inl ⟨rfl, rfl⟩⟩
  | some v =>
    obtain ⟨m', a1, a2, a3⟩ := c1 v hT
    have a2' : Fr (rkP w) m m' := Fr_mono a2 (fun q x hq => .inr hq.1)
    have h' := Fr_Sh a2' h
    refine ⟨sI m' w 12 v, 1, fun o => ?_, Fr_sI a2' (.inl ⟨rfl, .inr rfl⟩) _, .inr ⟨v, rfl, rfl, ?_⟩⟩
    · show f_X3_reckon_11 1000 w (nI j) 0 0 (nI i) 0 m o = _
      rw [a1, show 1000 - (j - i) = (999 - (j - i)) + 1 by omega]
      exact rk_end h' hw _ j hj _ _ _ (by omega) o
    · rw [gI_sI, if_pos ⟨rfl, rfl⟩]
/-- a value within its bounds -/
def clp (most : Int32) (x : Option Int32) : Int32 := match x with
  | none => 0
  | some v => if 0 < (if v < most then v else most) then (if v < most then v else most) else 0
theorem clp_nI {B : Nat} (hB : B < 2 ^ 31) (x : Option Int32) : ∃ v, v ≤ B ∧ clp (nI B) x = nI v := by
  cases x with
  | none => exact ⟨0, by omega, rfl⟩
  | some v =>
    show ∃ r, r ≤ B ∧ (if 0 < (if v < nI B then v else nI B) then (if v < nI B then v else nI B) else 0) = nI r
    by_cases q : v < nI B
    · rw [if_pos q]
      by_cases q2 : 0 < v
      · rw [if_pos q2]
        obtain ⟨j, hj, rfl⟩ := nI_of (x := v) (fun z => (fa_of_lt q2).2.2.1 z)
        exact ⟨j, by have := (nI_ltI hj hB).mp q; omega, rfl⟩
      · rw [if_neg q2]; exact ⟨0, by omega, rfl⟩
    · rw [if_neg q]
      by_cases q2 : 0 < nI B
      · rw [if_pos q2]; exact ⟨B, by omega, rfl⟩
      · rw [if_neg q2]; exact ⟨0, by omega, rfl⟩
/-- of clauses with letter ch the value of the first that holds; whether one with n does -/
noncomputable def fsV (K : Nat → Int32) (T : Nat → (Nat → Int32) → Option Bool) (V : Nat → (Nat → Int32) → Option Int32) (ch most : Int32) (l : Nat → Int32) : Nat → Nat → Int32
  | _, 0 => 0
  | i, k + 1 => @ite _ (K i = ch ∧ T i l = some true) (Classical.propDecidable _) (clp most (V i l)) (fsV K T V ch most l (i + 1) k)
noncomputable def anN (K : Nat → Int32) (T : Nat → (Nat → Int32) → Option Bool) (l : Nat → Int32) : Nat → Nat → Bool
  | _, 0 => false
  | i, k + 1 => @ite _ (K i = 110 ∧ T i l = some true) (Classical.propDecidable _) true (anN K T l (i + 1) k)
/-- the clauses, as the class has them -/
def LwC (C : Nat → Nat → Int32) (n : Nat) (T : Nat → (Nat → Int32) → Option Bool) (V : Nat → (Nat → Int32) → Option Int32) : Prop := n ≤ 14 ∧ ∀ k, k < n → ∃ ch vs cs ce : Nat, ch < 128 ∧ C 3 k = nI ch ∧ C 4 k = nI vs ∧ C 5 k = nI cs ∧ C 6 k = nI ce ∧ ce ≤ 200 ∧ CC C cs ce (T k) ∧ (ch ≠ 110 → ∃ d, d ≤ 32 ∧ EC C vs cs d (V k))
theorem l_firstV {C : Nat → Nat → Int32} {n : Nat} {T : Nat → (Nat → Int32) → Option Bool} {V : Nat → (Nat → Int32) → Option Int32} (hL : LwC C n T V) {w : Nat} (hw : isW w) {ch : Nat} (hch : ch ≠ 110 ∧ ch < 128) (most : Int32) {l : Nat → Int32} (hdT : ∀ k, k < n → dep allm (T k)) (hdV : ∀ k, k < n → dep allm (V k)) : ∀ (k N i : Nat) (m : Mm), Sh m → RwC w C m → gI m w 10 = nI n → (∀ j, j < 10 → gI m (w + 7) j = l j) → i + k = n → k < N → ∃ m', (∀ o, f_X3_firstValue_2 N w (nI ch) most (nI i) m o = (fsV (C 3) T V (nI ch) most l i k, m', o)) ∧ Fr (rkP w) m m' := by
  intro k
  induction k with
  | zero =>
    intro N i m h hR hn hl hi hN
    obtain ⟨N, rfl⟩ : ∃ N1, N = N1 + 1 := ⟨N - 1, by omega⟩
    obtain ⟨t0, -⟩ := w_sh h hw
    have hn14 := hL.1
    have hle : nI n ≤ nI i := nI_le (by omega) (by omega)
    refine ⟨m, fun o => ?_, Fr_refl _ m⟩
    show f_X3_firstValue_2b (f_X3_firstValue_2 N) w (nI ch) most (nI i) m o = _
    simp (config := {decide := true}) only [f_X3_firstValue_2b, hn, hle, t0, fsV, ne_eq, not_false_eq_true, and_self, and_true, true_and, and_false, false_and, true_or, or_true, false_or, or_false, not_true_eq_false, if_false, if_true]
  | succ k ih =>
    intro N i m h hR hn hl hi hN
    obtain ⟨N, rfl⟩ : ∃ N1, N = N1 + 1 := ⟨N - 1, by omega⟩
    have hn14 := hL.1
    obtain ⟨cc, vs, cs, ce, hcc, e3, e4, e5, e6, hce, hCC, hEC⟩ := hL.2 i (by omega)
    obtain ⟨t0, r0, r1, r2, r3, r4, r5, -⟩ := w_sh h hw
    obtain ⟨-, -, y3, y4, y5, y6, -⟩ := w_T h hw
    obtain ⟨-, -, z3, z4, z5, z6, -⟩ := w_N h hw
    have x3 : gI m (w + 3) i = nI cc := (hR 3 i (by omega) (by omega) (by omega)).trans e3
    have x4 : gI m (w + 4) i = nI vs := (hR 4 i (by omega) (by omega) (by omega)).trans e4
    have x5 : gI m (w + 5) i = nI cs := (hR 5 i (by omega) (by omega) (by omega)).trans e5
    have x6 : gI m (w + 6) i = nI ce := (hR 6 i (by omega) (by omega) (by omega)).trans e6
    have hle : ¬ nI n ≤ nI i := nI_ge (by omega) (by omega)
    have hin : vp_in (nI i) 14 := vp_in_nI (by omega) (by omega)
    have n2 : ¬ w + 3 = 0 := by omega
    have n4 : ¬ w + 5 = 0 := by omega
    have n5 : ¬ w + 6 = 0 := by omega
    have n3 : ¬ w + 4 = 0 := by omega
    have hTl : T i (gI m (w + 7)) = T i l := hdT i (by omega) _ _ (fun j hj _ => hl j hj)
    have hk0 : C 3 i = nI ch ↔ cc = ch := by rw [e3]; exact nI_eq (by omega) (by omega)
    by_cases q : cc = ch
    · subst q
      obtain ⟨m1, r, a1, a2, a3⟩ := e_reckonT hCC hce hw h hR
      have h1 := Fr_Sh a2 h
      obtain ⟨t0', r0', r1', r2', r3', r4', r5', -⟩ := w_sh h1 hw
      have hR1 : RwC w C m1 := RwC_Fr hR a2 (fun k x q1 q2 q3 => by unfold rkP; omega)
      have fr : ∀ k x, 1 ≤ k → k ≤ 7 → gI m1 (w + k) x = gI m (w + k) x := fun k x q1 q2 => Fr_at a2 (by unfold rkP; omega)
      rw [hTl] at a3
      by_cases q2 : T i l = some true
      · obtain ⟨z1, z2⟩ := a3.mpr q2
        obtain ⟨d, hd, hE⟩ := hEC hch.1
        obtain ⟨m2, r2v, b1, b2, b3⟩ := e_reckonE hE hd (by have := hCC.1; omega) hw h1 hR1
        have h2 := Fr_Sh b2 h1
        obtain ⟨t0'', -⟩ := w_sh h2 hw
        have hVl : V i (gI m1 (w + 7)) = V i l := hdV i (by omega) _ _ (fun j hj _ => (fr 7 j (by omega) (by omega)).trans (hl j hj))
        rw [hVl] at b3
        have x4' : gI m1 (w + 4) i = nI vs := (fr 4 i (by omega) (by omega)).trans x4
        have x5' : gI m1 (w + 5) i = nI cs := (fr 5 i (by omega) (by omega)).trans x5
        obtain ⟨-, -, -, y4', y5', -⟩ := w_T h1 hw
        obtain ⟨-, -, -, zz4, zz5, -⟩ := w_N h1 hw
        refine ⟨m2, fun o => ?_, Fr_trans a2 b2⟩
        show f_X3_firstValue_2b (f_X3_firstValue_2 N) w (nI cc) most (nI i) m o = _
        rw [fsV, if_pos ⟨hk0.mpr rfl, q2⟩]
        simp (config := {decide := true}) only [f_X3_firstValue_2b, f_X3_firstValue_36, f_X3_firstValue_62, f_X3_firstValue_85, bnd, hn, hle, t0, t0', t0'', r2, r3, r4, r5, r3', r4', y3, y4, y5, y6, z3, z4, z5, z6, y4', y5', zz4, zz5, n2, n3, n4, n5, hin, ix_nI (show i < 2 ^ 31 by omega), x3, x4, x5, x6, x4', x5', a1, b1, z1, z2, ne_eq, not_false_eq_true, and_self, and_true, true_and, and_false, false_and, true_or, or_true, false_or, or_false, not_true_eq_false, if_false, if_true]
        rcases b3 with ⟨b3, b4⟩ | ⟨v, b3, b4, b5⟩
        · simp (config := {decide := true}) only [b4, b3, clp, ne_eq, not_false_eq_true, and_self, and_true, true_and, and_false, false_and, true_or, or_true, false_or, or_false, not_true_eq_false, if_false, if_true]
        · simp (config := {decide := true}) only [b4, b3, b5, clp, ne_eq, not_false_eq_true, and_self, and_true, true_and, and_false, false_and, true_or, or_true, false_or, or_false, not_true_eq_false, if_false, if_true]
      · have hz : r = 0 ∨ gI m1 w 11 = 0 := by
          by_cases z1 : r = 0
          · exact .inl z1
          · by_cases z2 : gI m1 w 11 = 0
            · exact .inr z2
            · exact absurd (a3.mp ⟨z1, z2⟩) q2
        obtain ⟨m2, b1, b2⟩ := ih N (i + 1) m1 h1 hR1 ((Fr_at a2 (by unfold rkP; omega)).trans hn) (fun j hj => (fr 7 j (by omega) (by omega)).trans (hl j hj)) (by omega) (by omega)
        refine ⟨m2, fun o => ?_, Fr_trans a2 b2⟩
        show f_X3_firstValue_2b (f_X3_firstValue_2 N) w (nI cc) most (nI i) m o = _
        rw [fsV, if_neg (fun z => q2 z.2)]
        simp (config := {decide := true}) only [f_X3_firstValue_2b, f_X3_firstValue_36, f_X3_firstValue_86, bnd, hn, hle, t0, t0', r2, r4, r5, y3, y5, y6, z3, z5, z6, n2, n4, n5, hin, ix_nI (show i < 2 ^ 31 by omega), x3, x5, x6, a1, nI_1, ne_eq, not_false_eq_true, and_self, and_true, true_and, and_false, false_and, true_or, or_true, false_or, or_false, not_true_eq_false, if_false, if_true]
        rcases hz with z | z
        · rw [if_pos z]; exact b1 o
        · rw [if_pos z]
          by_cases z3 : r = 0
          · rw [if_pos z3]; exact b1 o
          · rw [if_neg z3]; exact b1 o
    · obtain ⟨m2, b1, b2⟩ := ih N (i + 1) m h hR hn hl (by omega) (by omega)
      refine ⟨m2, fun o => ?_, b2⟩
      have hne : ¬ nI cc = nI ch := fun z => q ((nI_eq (by omega) (by omega)).mp z)
      show f_X3_firstValue_2b (f_X3_firstValue_2 N) w (nI ch) most (nI i) m o = _
      rw [fsV, if_neg (fun z => q (hk0.mp z.1))]
      simp (config := {decide := true}) only [f_X3_firstValue_2b, f_X3_firstValue_86, hn, hle, t0, r2, y3, z3, n2, hin, ix_nI (show i < 2 ^ 31 by omega), x3, hne, nI_1, ne_eq, not_false_eq_true, and_self, and_true, true_and, and_false, false_and, true_or, or_true, false_or, or_false, not_true_eq_false, if_false, if_true]
      exact b1 o
theorem l_wouldN {C : Nat → Nat → Int32} {n : Nat} {T : Nat → (Nat → Int32) → Option Bool} {V : Nat → (Nat → Int32) → Option Int32} (hL : LwC C n T V) {w : Nat} (hw : isW w) {l : Nat → Int32} (hdT : ∀ k, k < n → dep allm (T k)) : ∀ (k N i : Nat) (m : Mm) (v : Nat), v < 2 ^ 31 → Sh m → RwC w C m → gI m w 10 = nI n → (∀ j, j < 10 → gI m (w + 7) j = l j) → i + k = n → k < N → ∃ m', (∀ o, f_X3_wouldEat_36 N w (nI v) (nI i) m o = (if anN (C 3) T l i k then 0 else nI v, m', o)) ∧ Fr (rkP w) m m' := by
  intro k
  induction k with
  | zero =>
    intro N i m v hv h hR hn hl hi hN
    obtain ⟨N, rfl⟩ : ∃ N1, N = N1 + 1 := ⟨N - 1, by omega⟩
    obtain ⟨t0, -⟩ := w_sh h hw
    have hn14 := hL.1
    have hle : nI n ≤ nI i := nI_le (by omega) (by omega)
    refine ⟨m, fun o => ?_, Fr_refl _ m⟩
    show f_X3_wouldEat_36b (f_X3_wouldEat_36 N) w (nI v) (nI i) m o = _
    simp (config := {decide := true}) only [f_X3_wouldEat_36b, f_X3_wouldEat_99, hn, hle, t0, anN, ne_eq, not_false_eq_true, and_self, and_true, true_and, and_false, false_and, true_or, or_true, false_or, or_false, not_true_eq_false, if_false, if_true]
  | succ k ih =>
    intro N i m v hv h hR hn hl hi hN
    obtain ⟨N, rfl⟩ : ∃ N1, N = N1 + 1 := ⟨N - 1, by omega⟩
    have hn14 := hL.1
    obtain ⟨cc, vs, cs, ce, hcc, e3, e4, e5, e6, hce, hCC, hEC⟩ := hL.2 i (by omega)
    obtain ⟨t0, r0, r1, r2, r3, r4, r5, -⟩ := w_sh h hw
    obtain ⟨-, -, y3, y4, y5, y6, -⟩ := w_T h hw
    obtain ⟨-, -, z3, z4, z5, z6, -⟩ := w_N h hw
    have x3 : gI m (w + 3) i = nI cc := (hR 3 i (by omega) (by omega) (by omega)).trans e3
    have x5 : gI m (w + 5) i = nI cs := (hR 5 i (by omega) (by omega) (by omega)).trans e5
    have x6 : gI m (w + 6) i = nI ce := (hR 6 i (by omega) (by omega) (by omega)).trans e6
    have hle : ¬ nI n ≤ nI i := nI_ge (by omega) (by omega)
    have hin : vp_in (nI i) 14 := vp_in_nI (by omega) (by omega)
    have n2 : ¬ w + 3 = 0 := by omega
    have n4 : ¬ w + 5 = 0 := by omega
    have n5 : ¬ w + 6 = 0 := by omega
    have hTl : T i (gI m (w + 7)) = T i l := hdT i (by omega) _ _ (fun j hj _ => hl j hj)
    have hk0 : C 3 i = 110 ↔ cc = 110 := by rw [e3]; exact nI_eq (a := cc) (b := 110) (by omega) (by omega)
    by_cases qv : v = 0
    · subst qv
      refine ⟨m, fun o => ?_, Fr_refl _ m⟩
      show f_X3_wouldEat_36b (f_X3_wouldEat_36 N) w (nI 0) (nI i) m o = _
      have h0 : nI 0 ≤ (0 : Int32) := by decide
      simp (config := {decide := true}) only [f_X3_wouldEat_36b, f_X3_wouldEat_99, hn, hle, h0, t0, nI_0, ite_self, ne_eq, not_false_eq_true, and_self, and_true, true_and, and_false, false_and, true_or, or_true, false_or, or_false, not_true_eq_false, if_false, if_true]
    · have h0 : ¬ nI v ≤ (0 : Int32) := nI_nle (by omega) hv
      by_cases q : cc = 110
      · subst q
        obtain ⟨m1, r, a1, a2, a3⟩ := e_reckonT hCC hce hw h hR
        have h1 := Fr_Sh a2 h
        obtain ⟨t0', -⟩ := w_sh h1 hw
        have hR1 : RwC w C m1 := RwC_Fr hR a2 (fun k x q1 q2 q3 => by unfold rkP; omega)
        have fr : ∀ k x, 1 ≤ k → k ≤ 7 → gI m1 (w + k) x = gI m (w + k) x := fun k x q1 q2 => Fr_at a2 (by unfold rkP; omega)
        have hl1 : ∀ j, j < 10 → gI m1 (w + 7) j = l j := fun j hj => (fr 7 j (by omega) (by omega)).trans (hl j hj)
        have hn1 : gI m1 w 10 = nI n := (Fr_at a2 (by unfold rkP; omega)).trans hn
        have e110 : nI 110 = 110 := rfl
        rw [hTl] at a3
        by_cases q2 : T i l = some true
        · obtain ⟨z1, z2⟩ := a3.mpr q2
          obtain ⟨m2, b1, b2⟩ := ih N (i + 1) m1 0 (by omega) h1 hR1 hn1 hl1 (by omega) (by omega)
          refine ⟨m2, fun o => ?_, Fr_trans a2 b2⟩
          show f_X3_wouldEat_36b (f_X3_wouldEat_36 N) w (nI v) (nI i) m o = _
          rw [show anN (C 3) T l i (k + 1) = true from by rw [anN]; exact if_pos ⟨hk0.mpr rfl, q2⟩]
          rw [nI_0, ite_self] at b1
          simp (config := {decide := true}) only [f_X3_wouldEat_36b, f_X3_wouldEat_80, f_X3_wouldEat_93, bnd, hn, hle, h0, t0, t0', r2, r4, r5, y3, y5, y6, z3, z5, z6, n2, n4, n5, hin, ix_nI (show i < 2 ^ 31 by omega), x3, x5, x6, e110, a1, z1, z2, nI_1, ne_eq, not_false_eq_true, and_self, and_true, true_and, and_false, false_and, true_or, or_true, false_or, or_false, not_true_eq_false, if_false, if_true]
          exact b1 o
        · have hz : r = 0 ∨ gI m1 w 11 = 0 := by
            by_cases z1 : r = 0
            · exact .inl z1
            · by_cases z2 : gI m1 w 11 = 0
              · exact .inr z2
              · exact absurd (a3.mp ⟨z1, z2⟩) q2
          obtain ⟨m2, b1, b2⟩ := ih N (i + 1) m1 v hv h1 hR1 hn1 hl1 (by omega) (by omega)
          refine ⟨m2, fun o => ?_, Fr_trans a2 b2⟩
          show f_X3_wouldEat_36b (f_X3_wouldEat_36 N) w (nI v) (nI i) m o = _
          rw [show anN (C 3) T l i (k + 1) = anN (C 3) T l (i + 1) k from by rw [anN]; exact if_neg (fun z => q2 z.2)]
          simp (config := {decide := true}) only [f_X3_wouldEat_36b, f_X3_wouldEat_80, f_X3_wouldEat_93, bnd, hn, hle, h0, t0, t0', r2, r4, r5, y3, y5, y6, z3, z5, z6, n2, n4, n5, hin, ix_nI (show i < 2 ^ 31 by omega), x3, x5, x6, e110, a1, nI_1, ne_eq, not_false_eq_true, and_self, and_true, true_and, and_false, false_and, true_or, or_true, false_or, or_false, not_true_eq_false, if_false, if_true]
          rcases hz with z | z
          · rw [if_pos z]; exact b1 o
          · rw [if_pos z]
            by_cases z3 : r = 0
            · rw [if_pos z3]; exact b1 o
            · rw [if_neg z3]; exact b1 o
      · obtain ⟨m2, b1, b2⟩ := ih N (i + 1) m v hv h hR hn hl (by omega) (by omega)
        refine ⟨m2, fun o => ?_, b2⟩
        have hne : ¬ nI cc = 110 := fun z => q ((nI_eq (a := cc) (b := 110) (by omega) (by omega)).mp z)
        show f_X3_wouldEat_36b (f_X3_wouldEat_36 N) w (nI v) (nI i) m o = _
        rw [show anN (C 3) T l i (k + 1) = anN (C 3) T l (i + 1) k from by rw [anN]; exact if_neg (fun z => q (hk0.mp z.1))]
        simp (config := {decide := true}) only [f_X3_wouldEat_36b, f_X3_wouldEat_93, hn, hle, h0, t0, r2, y3, z3, n2, hin, ix_nI (show i < 2 ^ 31 by omega), x3, hne, nI_1, ne_eq, not_false_eq_true, and_self, and_true, true_and, and_false, false_and, true_or, or_true, false_or, or_false, not_true_eq_false, if_false, if_true]
        exact b1 o

/-! ===== what the class's law says of a cow and a stack ===== -/
def sal (a : Nat → Nat → Int32) (s : Nat) : Int32 := if nI s = a 0 8 then (if a 0 10 < a 0 9 then 0 else 1) else 0
def lts (a : Nat → Nat → Int32) (s j : Nat) : Int32 := if j = 0 then a (7 + 2 * s) 3 else if j = 1 then a (7 + 2 * s) 4 else if j = 2 then a (7 + 2 * s) 5 else if j = 3 then a (7 + 2 * s) 6 else if j = 4 then a (7 + 2 * s) 2 else sal a s
def ltc (a : Nat → Nat → Int32) (s c j : Nat) : Int32 := if j = 6 then a (32 + 2 * c) (ix (a (7 + 2 * s) 2)) else if j = 7 then ab (a (31 + 2 * c) 0 - a (7 + 2 * s) 0) + ab (a (31 + 2 * c) 1 - a (7 + 2 * s) 1) else if j = 8 then a (31 + 2 * c) 2 else a (31 + 2 * c) 3
def letE (a : Nat → Nat → Int32) (s c j : Nat) : Int32 := if j < 6 then lts a s j else ltc a s c j
def letG (a : Nat → Nat → Int32) (s j : Nat) : Int32 := if j < 6 then lts a s j else 0
theorem sal_01 (a : Nat → Nat → Int32) (s : Nat) : sal a s = 0 ∨ sal a s = 1 := by
  unfold sal
  by_cases q1 : nI s = a 0 8
  · rw [if_pos q1]
    by_cases q2 : a 0 10 < a 0 9
    · rw [if_pos q2]; exact .inl rfl
    · rw [if_neg q2]; exact .inr rfl
  · rw [if_neg q1]; exact .inl rfl
/-- what a look at the law's answer may change: truth, value, letters, pile -/
def lwP (w q i : Nat) : Prop := (q = w ∧ (i = 11 ∨ i = 12)) ∨ q = w + 7 ∨ q = w + 9
theorem e_isSalted {m : Mm} (h : Sh m) {p s : Nat} (hp : isMd p) {a : Nat → Nat → Int32} (hM : Md m p a) (o : Prop) : F_X5_isSalted p (nI s) m o = (sal a s, m, o) := by
  obtain ⟨t1, -⟩ := md_top h hp
  have g : ∀ i, gI m p i = a 0 i := fun i => hM 0 i (by omega) (by omega)
  unfold sal
  simp (config := {decide := true}) only [f_X5_isSalted_24, f_X5_isSalted_23, f_X5_isSalted_0, F_X5_isSalted, g, t1, ne_eq, not_false_eq_true, and_self, and_true, true_and, and_false, false_and, true_or, or_true, false_or, or_false, not_true_eq_false, if_false, if_true]
  rcases Classical.propComplete (nI s = a 0 8) with q1 | q1 <;> rcases Classical.propComplete (a 0 10 < a 0 9) with q2 | q2 <;> simp (config := {decide := true}) only [q1, q2, ne_eq, not_false_eq_true, and_self, and_true, true_and, and_false, false_and, true_or, or_true, false_or, or_false, not_true_eq_false, if_false, if_true]
theorem e_lookS {m : Mm} (h : Sh m) {p s w : Nat} (hp : isMd p) (hs : s < 12) (hw : isW w) {a : Nat → Nat → Int32} (hM : Md m p a) : ∃ m', (∀ o, F_X3_lookAtStack w p (nI s) m o = ((), m', o)) ∧ Fr (fun q _ => q = w + 7) m m' ∧ ∀ j, j < 6 → gI m' (w + 7) j = lts a s j := by
  obtain ⟨t1, t2, t3, t4, -⟩ := md_top h hp
  obtain ⟨u1, u2, -⟩ := md_stk h hp hs
  obtain ⟨t0, -, -, -, -, -, -, r6, -⟩ := w_sh h hw
  obtain ⟨-, -, -, -, -, -, y7, -⟩ := w_T h hw
  obtain ⟨-, -, -, -, -, -, z7, -⟩ := w_N h hw
  have hq : p + 7 + 2 * s < 191 := by rcases hp with rfl | rfl | rfl <;> omega
  have hwp : 205 ≤ w := by rcases hw with rfl | rfl <;> omega
  have gs : ∀ i, gI m (p + 7 + 2 * s) i = a (7 + 2 * s) i := fun i => Md_at hM (by omega) (by omega) (by omega)
  have n1 : ¬ p + 1 = 0 := by omega
  have n2 : ¬ p + 7 + 2 * s = 0 := by omega
  have n3 : ¬ w + 7 = 0 := by omega
  have hne : (p + 7 + 2 * s = w + 7) = False := eq_false (by omega)
  have hin : vp_in (nI s) 12 := vp_in_nI (by omega) (by omega)
  have i0 : vp_in (0 : Int32) 10 := vp_in_nI (n := 0) (by omega) (by omega)
  have i1 : vp_in (1 : Int32) 10 := vp_in_nI (n := 1) (by omega) (by omega)
  have i2 : vp_in (2 : Int32) 10 := vp_in_nI (n := 2) (by omega) (by omega)
  have i3 : vp_in (3 : Int32) 10 := vp_in_nI (n := 3) (by omega) (by omega)
  have i4 : vp_in (4 : Int32) 10 := vp_in_nI (n := 4) (by omega) (by omega)
  have i5 : vp_in (5 : Int32) 10 := vp_in_nI (n := 5) (by omega) (by omega)
  have x0 : ix (0 : Int32) = 0 := by decide
  have x1 : ix (1 : Int32) = 1 := by decide
  have x2 : ix (2 : Int32) = 2 := by decide
  have x3 : ix (3 : Int32) = 3 := by decide
  have x4 : ix (4 : Int32) = 4 := by decide
  have x5 : ix (5 : Int32) = 5 := by decide
  have hM1 : Md (sI (sI (sI (sI (sI m (w + 7) 0 (a (7 + 2 * s) 3)) (w + 7) 1 (a (7 + 2 * s) 4)) (w + 7) 2 (a (7 + 2 * s) 5)) (w + 7) 3 (a (7 + 2 * s) 6)) (w + 7) 4 (a (7 + 2 * s) 2)) p a := by
    have hnM : ¬ inM p (w + 7) := by unfold inM; rcases hp with rfl | rfl | rfl <;> omega
    exact Md_ne (Md_ne (Md_ne (Md_ne (Md_ne hM _ _ hnM) _ _ hnM) _ _ hnM) _ _ hnM) _ _ hnM
  have hS1 : Sh (sI (sI (sI (sI (sI m (w + 7) 0 (a (7 + 2 * s) 3)) (w + 7) 1 (a (7 + 2 * s) 4)) (w + 7) 2 (a (7 + 2 * s) 5)) (w + 7) 3 (a (7 + 2 * s) 6)) (w + 7) 4 (a (7 + 2 * s) 2)) := h
  refine ⟨sI (sI (sI (sI (sI (sI m (w + 7) 0 (a (7 + 2 * s) 3)) (w + 7) 1 (a (7 + 2 * s) 4)) (w + 7) 2 (a (7 + 2 * s) 5)) (w + 7) 3 (a (7 + 2 * s) 6)) (w + 7) 4 (a (7 + 2 * s) 2)) (w + 7) 5 (sal a s), fun o => ?_, ?_, fun j hj => ?_⟩
  · simp (config := {decide := true}) only [f_X3_lookAtStack_76, f_X3_lookAtStack_75, f_X3_lookAtStack_67, f_X3_lookAtStack_57, f_X3_lookAtStack_47, f_X3_lookAtStack_37, f_X3_lookAtStack_27, f_X3_lookAtStack_17, f_X3_lookAtStack_0, F_X3_lookAtStack, bnd, t0, t1, t2, t3, t4, u1, u2, r6, y7, z7, gs, n1, n2, n3, hne, hin, ix_nI (show s < 2 ^ 31 by omega), x0, x1, x2, x3, x4, x5, i0, i1, i2, i3, i4, i5, gI_sI, gT_sI, gN_sI, gR_sI, e_isSalted hS1 hp hM1, ne_eq, not_false_eq_true, and_self, and_true, true_and, and_false, false_and, true_or, or_true, false_or, or_false, not_true_eq_false, if_false, if_true]
    rcases sal_01 a s with z | z <;> simp (config := {decide := true}) only [z, ne_eq, not_false_eq_true, and_self, and_true, true_and, and_false, false_and, true_or, or_true, false_or, or_false, not_true_eq_false, if_false, if_true]
  · refine Fr_sI (Fr_sI (Fr_sI (Fr_sI (Fr_sI (Fr_sI (Fr_refl _ m) ?_ _) ?_ _) ?_ _) ?_ _) ?_ _) ?_ _ <;> rfl
  · unfold lts
    have : j = 0 ∨ j = 1 ∨ j = 2 ∨ j = 3 ∨ j = 4 ∨ j = 5 := by omega
    rcases this with rfl | rfl | rfl | rfl | rfl | rfl <;> simp [gI_sI]
theorem e_lookC {m : Mm} (h : Sh m) {p s c w : Nat} (hp : isMd p) (hs : s < 12) (hc : c < 16) (hw : isW w) {a : Nat → Nat → Int32} (hM : Md m p a) {k : Nat} (hk : k ≤ 4) (hcol : a (7 + 2 * s) 2 = nI k) : ∃ m', (∀ o, F_X3_lookAtCow w (p + 31 + 2 * c) (p + 7 + 2 * s) m o = ((), m', o)) ∧ Fr (fun q i => q = w + 7 ∧ 6 ≤ i) m m' ∧ ∀ j, 6 ≤ j → j < 10 → gI m' (w + 7) j = ltc a s c j := by
  obtain ⟨u1, u2, -⟩ := md_stk h hp hs
  obtain ⟨v1, v2, v3, v4, v5⟩ := md_cow h hp hc
  obtain ⟨t0, -, -, -, -, -, -, r6, -⟩ := w_sh h hw
  obtain ⟨-, -, -, -, -, -, y7, -⟩ := w_T h hw
  obtain ⟨-, -, -, -, -, -, z7, -⟩ := w_N h hw
  have hq : p + 7 + 2 * s < 191 := by rcases hp with rfl | rfl | rfl <;> omega
  have hq2 : p + 32 + 2 * c < 191 := by rcases hp with rfl | rfl | rfl <;> omega
  have hwp : 205 ≤ w := by rcases hw with rfl | rfl <;> omega
  have gs : ∀ i, gI m (p + 7 + 2 * s) i = a (7 + 2 * s) i := fun i => Md_at hM (by omega) (by omega) (by omega)
  have gc : ∀ i, gI m (p + 31 + 2 * c) i = a (31 + 2 * c) i := fun i => Md_at hM (by omega) (by omega) (by omega)
  have gt : ∀ i, gI m (p + 32 + 2 * c) i = a (32 + 2 * c) i := fun i => Md_at hM (by omega) (by omega) (by omega)
  have n3 : ¬ w + 7 = 0 := by omega
  have n4 : ¬ p + 32 + 2 * c = 0 := by omega
  have hne : (p + 7 + 2 * s = w + 7) = False := eq_false (by omega)
  have hne2 : (p + 31 + 2 * c = w + 7) = False := eq_false (by omega)
  have hne3 : (p + 32 + 2 * c = w + 7) = False := eq_false (by omega)
  have hin : vp_in (nI k) 5 := vp_in_nI (by omega) (by omega)
  have i6 : vp_in (6 : Int32) 10 := vp_in_nI (n := 6) (by omega) (by omega)
  have i7 : vp_in (7 : Int32) 10 := vp_in_nI (n := 7) (by omega) (by omega)
  have i8 : vp_in (8 : Int32) 10 := vp_in_nI (n := 8) (by omega) (by omega)
  have i9 : vp_in (9 : Int32) 10 := vp_in_nI (n := 9) (by omega) (by omega)
  have x6 : ix (6 : Int32) = 6 := by decide
  have x7 : ix (7 : Int32) = 7 := by decide
  have x8 : ix (8 : Int32) = 8 := by decide
  have x9 : ix (9 : Int32) = 9 := by decide
  refine ⟨sI (sI (sI (sI m (w + 7) 6 (a (32 + 2 * c) k)) (w + 7) 7 (ab (a (31 + 2 * c) 0 - a (7 + 2 * s) 0) + ab (a (31 + 2 * c) 1 - a (7 + 2 * s) 1))) (w + 7) 8 (a (31 + 2 * c) 2)) (w + 7) 9 (a (31 + 2 * c) 3), fun o => ?_, ?_, fun j h6 hj => ?_⟩
  · simp (config := {decide := true}) only [f_X3_lookAtCow_70, f_X3_lookAtCow_59, f_X3_lookAtCow_48, f_X3_lookAtCow_16, f_X3_lookAtCow_0, F_X3_lookAtCow, ab, t0, u2, v2, v3, v4, v5, r6, y7, z7, gs, gc, gt, n3, n4, hne, hne2, hne3, hcol, hin, ix_nI (show k < 2 ^ 31 by omega), x6, x7, x8, x9, i6, i7, i8, i9, gI_sI, gT_sI, gN_sI, gR_sI, ne_eq, not_false_eq_true, and_self, and_true, true_and, and_false, false_and, true_or, or_true, false_or, or_false, not_true_eq_false, if_false, if_true]
  · refine Fr_sI (Fr_sI (Fr_sI (Fr_sI (Fr_refl _ m) ?_ _) ?_ _) ?_ _) ?_ _ <;> omega
  · unfold ltc
    rw [hcol, ix_nI (by omega)]
    have : j = 6 ∨ j = 7 ∨ j = 8 ∨ j = 9 := by omega
    rcases this with rfl | rfl | rfl | rfl <;> simp [gI_sI]
/-- how much a cow would eat, by how much a stack is hotter -/
noncomputable def Ev (C : Nat → Nat → Int32) (n : Nat) (T : Nat → (Nat → Int32) → Option Bool) (V : Nat → (Nat → Int32) → Option Int32) (l : Nat → Int32) : Int32 := if anN (C 3) T l 0 n then 0 else fsV (C 3) T V 101 999 l 0 n
noncomputable def Gv (C : Nat → Nat → Int32) (n : Nat) (T : Nat → (Nat → Int32) → Option Bool) (V : Nat → (Nat → Int32) → Option Int32) (l : Nat → Int32) : Int32 := fsV (C 3) T V 103 99 l 0 n
theorem fsV_nI {K : Nat → Int32} {T : Nat → (Nat → Int32) → Option Bool} {V : Nat → (Nat → Int32) → Option Int32} (ch : Int32) {B : Nat} (hB : B < 2 ^ 31) (l : Nat → Int32) : ∀ (k i : Nat), ∃ v, v ≤ B ∧ fsV K T V ch (nI B) l i k = nI v
  | 0, _ => ⟨0, by omega, rfl⟩
  | k + 1, i => by
    unfold fsV
    by_cases q : K i = ch ∧ T i l = some true
    · rw [if_pos q]; exact clp_nI hB _
    · rw [if_neg q]; exact fsV_nI ch hB l k (i + 1)
theorem Ev_nI (C : Nat → Nat → Int32) (n : Nat) (T : Nat → (Nat → Int32) → Option Bool) (V : Nat → (Nat → Int32) → Option Int32) (l : Nat → Int32) : ∃ v, v ≤ 999 ∧ Ev C n T V l = nI v := by
  unfold Ev
  by_cases q : anN (C 3) T l 0 n = true
  · rw [if_pos q]; exact ⟨0, by omega, rfl⟩
  · rw [if_neg q]; exact fsV_nI 101 (B := 999) (by omega) l n 0
theorem Gv_nI (C : Nat → Nat → Int32) (n : Nat) (T : Nat → (Nat → Int32) → Option Bool) (V : Nat → (Nat → Int32) → Option Int32) (l : Nat → Int32) : ∃ v, v ≤ 99 ∧ Gv C n T V l = nI v := fsV_nI 103 (B := 99) (by omega) l n 0
/-- all that is known of a law: the class's form of it -/
def LwF (C : Nat → Nat → Int32) (n : Nat) (T : Nat → (Nat → Int32) → Option Bool) (V : Nat → (Nat → Int32) → Option Int32) : Prop := LwC C n T V ∧ (∀ k, k < n → dep allm (T k)) ∧ (∀ k, k < n → dep allm (V k))
def lawAt (m : Mm) (w : Nat) (C : Nat → Nat → Int32) (n : Nat) : Prop := isW w ∧ RwC w C m ∧ gI m w 10 = nI n
theorem lawAt_Fr {P : Nat → Nat → Prop} {m m' : Mm} {w : Nat} {C : Nat → Nat → Int32} {n : Nat} (h : lawAt m w C n) (hF : Fr P m m') (hP : ∀ q x, (q = w ∧ x = 10) ∨ (w < q ∧ q ≤ w + 8 ∧ q ≠ w + 7) → ¬ P q x) : lawAt m' w C n := ⟨h.1, RwC_Fr h.2.1 hF (fun k x h1 h2 h3 => hP _ _ (.inr ⟨by omega, by omega, by omega⟩)), (Fr_at hF (hP w 10 (.inl ⟨rfl, rfl⟩))).trans h.2.2⟩
theorem e_wouldEat {C : Nat → Nat → Int32} {n : Nat} {T : Nat → (Nat → Int32) → Option Bool} {V : Nat → (Nat → Int32) → Option Int32} (hL : LwF C n T V) {m : Mm} (h : Sh m) {w : Nat} (hA : lawAt m w C n) {p s c : Nat} (hp : isMd p) (hs : s < 12) (hc : c < 16) {a : Nat → Nat → Int32} (hM : Md m p a) {k : Nat} (hk : k ≤ 4) (hcol : a (7 + 2 * s) 2 = nI k) : ∃ m', (∀ o, F_X3_wouldEat w p (nI c) (nI s) m o = (Ev C n T V (letE a s c), m', o)) ∧ Fr (lwP w) m m' := by
  obtain ⟨hw, hR, hn⟩ := hA
  obtain ⟨t1, t2, t3, t4, t5, t6, t7, -⟩ := md_top h hp
  obtain ⟨u1, u2, -⟩ := md_stk h hp hs
  obtain ⟨v1, v2, -⟩ := md_cow h hp hc
  have hwp : 205 ≤ w := by rcases hw with rfl | rfl <;> omega
  have hpp : p + 63 ≤ 191 := by rcases hp with rfl | rfl | rfl <;> omega
  obtain ⟨m1, a1, a2, a3⟩ := e_lookS h hp hs hw hM
  have h1 := Fr_Sh a2 h
  have hM1 : Md m1 p a := Md_frame hM (fun q i hq => Fr_at a2 (by unfold inM at hq; omega))
  obtain ⟨m2, b1, b2, b3⟩ := e_lookC h1 hp hs hc hw hM1 hk hcol
  have h2 := Fr_Sh b2 h1
  have hl : ∀ j, j < 10 → gI m2 (w + 7) j = letE a s c j := fun j hj => by
    unfold letE
    by_cases q : j < 6
    · rw [if_pos q, Fr_at b2 (by omega)]; exact a3 j q
    · rw [if_neg q]; exact b3 j (by omega) hj
  have hF2 : Fr (lwP w) m m2 := Fr_trans (Fr_mono a2 (fun q i hq => .inr (.inl hq))) (Fr_mono b2 (fun q i hq => .inr (.inl hq.1)))
  have hA2 : lawAt m2 w C n := lawAt_Fr ⟨hw, hR, hn⟩ hF2 (fun q x hq => by unfold lwP; omega)
  obtain ⟨m3, c1, c2⟩ := l_firstV hL.1 hw (ch := 101) ⟨by omega, by omega⟩ 999 hL.2.1 hL.2.2 n 1000 0 m2 h2 hA2.2.1 hA2.2.2 hl (by omega) (by have := hL.1.1; omega)
  have h3 := Fr_Sh c2 h2
  have hA3 : lawAt m3 w C n := lawAt_Fr hA2 c2 (fun q x hq => by unfold rkP; omega)
  obtain ⟨v, hv, ev⟩ := fsV_nI (K := C 3) (T := T) (V := V) 101 (B := 999) (by omega) (letE a s c) n 0
  have ev : fsV (C 3) T V 101 999 (letE a s c) 0 n = nI v := ev
  obtain ⟨m4, d1, d2⟩ := l_wouldN hL.1 hw hL.2.1 n 1000 0 m3 v (by omega) h3 hA3.2.1 hA3.2.2 (fun j hj => (Fr_at c2 (by unfold rkP; omega)).trans (hl j hj)) (by omega) (by have := hL.1.1; omega)
  rw [nI_0] at c1 d1
  obtain ⟨s1, s2, s3, s4, s5, s6, s7, -⟩ := md_top h1 hp
  obtain ⟨x1, x2, -⟩ := md_stk h1 hp hs
  obtain ⟨z1, z2, -⟩ := md_cow h1 hp hc
  obtain ⟨w0, -⟩ := w_sh h hw
  obtain ⟨w1, -⟩ := w_sh h1 hw
  obtain ⟨w2, -⟩ := w_sh h2 hw
  obtain ⟨w3, -⟩ := w_sh h3 hw
  have n1 : ¬ p + 1 = 0 := by omega
  have n2 : ¬ p + 2 = 0 := by omega
  have n3 : ¬ p + 7 + 2 * s = 0 := by omega
  have n4 : ¬ p + 31 + 2 * c = 0 := by omega
  have hin1 : vp_in (nI s) 12 := vp_in_nI (by omega) (by omega)
  have hin2 : vp_in (nI c) 16 := vp_in_nI (by omega) (by omega)
  have c1 : ∀ o, F_X3_firstValue w 101 999 m2 o = (nI v, m3, o) := fun o => by rw [← ev]; exact c1 o
  refine ⟨m4, fun o => ?_, Fr_trans (Fr_trans hF2 (Fr_mono c2 (fun q i hq => by unfold rkP at hq; unfold lwP; omega))) (Fr_mono d2 (fun q i hq => by unfold rkP at hq; unfold lwP; omega))⟩
  unfold Ev
  rw [ev]
  simp (config := {decide := true}) only [f_X3_wouldEat_93, f_X3_wouldEat_80, f_X3_wouldEat_99, f_X3_wouldEat_31, f_X3_wouldEat_22, f_X3_wouldEat_6, f_X3_wouldEat_0, F_X3_wouldEat, bnd, s1, s2, s3, s4, s5, s6, s7, x1, x2, z1, z2, w0, w1, w2, w3, n1, n2, n3, n4, hin1, hin2, ix_nI (show s < 2 ^ 31 by omega), ix_nI (show c < 2 ^ 31 by omega), a1, b1, c1, d1, ne_eq, not_false_eq_true, and_self, and_true, true_and, and_false, false_and, true_or, or_true, false_or, or_false, not_true_eq_false, if_false, if_true]
theorem l_hotZ {m0 : Mm} (h0 : Sh m0) {w : Nat} (hw : isW w) (r : Mm → Int32 × Mm) (hr : ∀ m, Sh m → Fr (fun q i => q = w + 7 ∧ 6 ≤ i ∧ i < 10) m0 m → (∀ j, 6 ≤ j → j < 10 → gI m (w + 7) j = 0) → ∃ m', (∀ o, F_X3_firstValue w 103 99 m o = (r m0 |>.1, m', o)) ∧ Fr (rkP w) m m') : ∀ (k N i : Nat) (m : Mm), i + k = 10 → 6 ≤ i → k < N → Fr (fun q x => q = w + 7 ∧ 6 ≤ x ∧ x < i) m0 m → (∀ j, 6 ≤ j → j < i → gI m (w + 7) j = 0) → ∃ m', (∀ o, f_X3_hotterBy_9 N w (nI i) m o = ((r m0).1, m', o)) ∧ Fr (lwP w) m0 m' := by
  intro k
  induction k with
  | zero =>
    intro N i m hi h6 hN hF hz
    obtain ⟨N, rfl⟩ : ∃ N1, N = N1 + 1 := ⟨N - 1, by omega⟩
    obtain rfl : i = 10 := by omega
    have h := Fr_Sh hF h0
    obtain ⟨t0, -⟩ := w_sh h hw
    obtain ⟨m', a1, a2⟩ := hr m h hF hz
    refine ⟨m', fun o => ?_, Fr_trans (Fr_mono hF (fun q x hq => .inr (.inl hq.1))) (Fr_mono a2 (fun q x hq => by unfold rkP at hq; unfold lwP; omega))⟩
    show f_X3_hotterBy_9b (f_X3_hotterBy_9 N) w (nI 10) m o = _
    unfold f_X3_hotterBy_9b
    rw [if_pos (by decide)]
    simp (config := {decide := true}) only [f_X3_hotterBy_36, bnd, t0, a1, ne_eq, not_false_eq_true, and_self, and_true, true_and, and_false, false_and, true_or, or_true, false_or, or_false, not_true_eq_false, if_false, if_true]
  | succ k ih =>
    intro N i m hi h6 hN hF hz
    obtain ⟨N, rfl⟩ : ∃ N1, N = N1 + 1 := ⟨N - 1, by omega⟩
    have h := Fr_Sh hF h0
    obtain ⟨t0, -, -, -, -, -, -, r6, -⟩ := w_sh h hw
    obtain ⟨-, -, -, -, -, -, y7, -⟩ := w_T h hw
    obtain ⟨-, -, -, -, -, -, z7, -⟩ := w_N h hw
    have n3 : ¬ w + 7 = 0 := by omega
    have hin : vp_in (nI i) 10 := vp_in_nI (by omega) (by omega)
    obtain ⟨m', a1, a2⟩ := ih N (i + 1) (sI m (w + 7) i 0) (by omega) (by omega) (by omega) (Fr_sI (Fr_mono hF (fun q x hq => ⟨hq.1, by omega, by omega⟩)) ⟨rfl, by omega, by omega⟩ 0) (fun j h1 h2 => by
      rw [gI_sI]
      by_cases q : j = i
      · rw [if_pos ⟨rfl, q⟩]
      · rw [if_neg (fun z => q z.2)]; exact hz j h1 (by omega))
    refine ⟨m', fun o => ?_, a2⟩
    show f_X3_hotterBy_9b (f_X3_hotterBy_9 N) w (nI i) m o = _
    unfold f_X3_hotterBy_9b
    rw [if_neg (show ¬ (10 : Int32) ≤ nI (i) from nI_ge (a := i) (b := 10) (by omega) (by omega))]
    simp (config := {decide := true}) only [f_X3_hotterBy_22, t0, r6, y7, z7, n3, hin, ix_nI (show i < 2 ^ 31 by omega), nI_1, ne_eq, not_false_eq_true, and_self, and_true, true_and, and_false, false_and, true_or, or_true, false_or, or_false, not_true_eq_false, if_false, if_true]
    exact a1 o
theorem e_hotterBy {C : Nat → Nat → Int32} {n : Nat} {T : Nat → (Nat → Int32) → Option Bool} {V : Nat → (Nat → Int32) → Option Int32} (hL : LwF C n T V) {m : Mm} (h : Sh m) {w : Nat} (hA : lawAt m w C n) {p s : Nat} (hp : isMd p) (hs : s < 12) {a : Nat → Nat → Int32} (hM : Md m p a) : ∃ m', (∀ o, F_X3_hotterBy w p (nI s) m o = (Gv C n T V (letG a s), m', o)) ∧ Fr (lwP w) m m' := by
  obtain ⟨hw, hR, hn⟩ := hA
  obtain ⟨m1, a1, a2, a3⟩ := e_lookS h hp hs hw hM
  have h1 := Fr_Sh a2 h
  have hA1 : lawAt m1 w C n := lawAt_Fr ⟨hw, hR, hn⟩ a2 (fun q x hq => by omega)
  obtain ⟨m2, b1, b2⟩ := l_hotZ h1 hw (fun _ => (Gv C n T V (letG a s), m1)) (fun m' h' hF hz => by
    have hA' : lawAt m' w C n := lawAt_Fr hA1 hF (fun q x hq => by omega)
    have hl : ∀ j, j < 10 → gI m' (w + 7) j = letG a s j := fun j hj => by
      unfold letG
      by_cases q : j < 6
      · rw [if_pos q, Fr_at hF (by omega)]; exact a3 j q
      · rw [if_neg q]; exact hz j (by omega) hj
    obtain ⟨m3, c1, c2⟩ := l_firstV hL.1 hw (ch := 103) ⟨by omega, by omega⟩ 99 hL.2.1 hL.2.2 n 1000 0 m' h' hA'.2.1 hA'.2.2 hl (by omega) (by have := hL.1.1; omega)
    rw [nI_0] at c1
    exact ⟨m3, c1, c2⟩) 4 1000 6 m1 (by omega) (by omega) (by omega) (Fr_refl _ m1) (fun j h1 h2 => by omega)
  obtain ⟨w0, -⟩ := w_sh h hw
  obtain ⟨w1, -⟩ := w_sh h1 hw
  refine ⟨m2, fun o => ?_, Fr_trans (Fr_mono a2 (fun q x hq => .inr (.inl hq))) b2⟩
  simp (config := {decide := true}) only [f_X3_hotterBy_22, f_X3_hotterBy_36, f_X3_hotterBy_6, f_X3_hotterBy_0, F_X3_hotterBy, bnd, w0, w1, a1, ne_eq, not_false_eq_true, and_self, and_true, true_and, and_false, false_and, true_or, or_true, false_or, or_false, not_true_eq_false, if_false, if_true]
  exact b1 o

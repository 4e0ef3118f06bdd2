/-! ===== salted: all places and days are tried ===== -/
theorem WfA_salt {a : Nat → Nat → Int32} {n c : Nat} (hW : WfA a n c) {x y : Int32} (hx : (x = -1 ∧ y = -1) ∨ ∃ s, s < n ∧ x = nI s) : WfA (up (up a 0 8 x) 0 9 y) n c := by
  have u : ∀ j, j ≠ 0 → up (up a 0 8 x) 0 9 y j = a j := fun j hj => funext (fun i => by rw [up_ne _ _ (fun z => hj z.1), up_ne _ _ (fun z => hj z.1)])
  obtain ⟨⟨w1, w2, w3, w4, w5⟩, w7, w8, w9, w10⟩ := hW
  refine ⟨⟨w1, w2, w3, hx, w5⟩, fun s hs => by rw [u _ (by omega)]; exact w7 s hs, ?_, fun i hi => by rw [u _ (by omega), u _ (by omega)]; exact w9 i hi, fun s hs i h1 h2 => by rw [u _ (by omega)]; exact w10 s hs i h1 h2⟩
  rw [hsum_congr (g := fun s => a (7 + 2 * s) 3) (fun s hs => by rw [u _ (by omega)])]
  exact w8
abbrev I3 := Int32 × Int32 × Int32
noncomputable def stp (P : Prop) (x y : Int32) (z : I3) : I3 := @ite _ P (Classical.propDecidable _) (if z.1 = 0 then (z.1 + 1, x, y) else (z.1 + 1, z.2.1, z.2.2)) z
noncomputable def gFD (FF : Nat → Nat → Prop) (s : Nat) : Nat → Nat → I3 → I3
  | 0, _, z => z
  | k + 1, d, z => gFD FF s k (d + 1) (stp (FF s d) (nI s) (nI d) z)
noncomputable def gFS (st : Nat → Int32) (FF : Nat → Nat → Prop) : Nat → Nat → I3 → I3
  | 0, _, z => z
  | k + 1, s, z => gFS st FF k (s + 1) (if st s = 0 then z else gFD FF s 10 0 z)
def V3 (m : Mm) (z : I3) : Prop := gI m 197 6 = z.1 ∧ gI m 197 7 = z.2.1 ∧ gI m 197 8 = z.2.2
def v3P (q i : Nat) : Prop := q = 197 ∧ (i = 6 ∨ i = 7 ∨ i = 8)
theorem e_countFit {m : Mm} (h : Sh m) {z : I3} (hz : V3 m z) (P : Prop) (hP : P) (x y : Int32) : ∃ m', (∀ o, F_X10_countFit 197 x y m o = ((), m', o)) ∧ V3 m' (stp P x y z) ∧ Fr v3P m m' := by
  obtain ⟨z1, z2, z3⟩ := hz
  unfold stp
  rw [if_pos hP]
  by_cases q : z.1 = 0
  · rw [if_pos q]
    refine ⟨sI (sI (sI m 197 7 x) 197 8 y) 197 6 (z.1 + 1), fun o => ?_, ⟨rfl, rfl, rfl⟩, Fr_sI (Fr_sI (Fr_sI (Fr_refl _ m) (by unfold v3P; omega) _) (by unfold v3P; omega) _) (by unfold v3P; omega) _⟩
    have g6 : gI (sI (sI m 197 7 x) 197 8 y) 197 6 = z.1 := z1
    simp (config := {decide := true}) only [f_X10_countFit_27, f_X10_countFit_17, f_X10_countFit_12, f_X10_countFit_0, F_X10_countFit, shT_197 h, z1, q, gT_sI, gI_sI, ne_eq, not_false_eq_true, and_self, and_true, true_and, and_false, false_and, true_or, or_true, false_or, or_false, not_true_eq_false, if_false, if_true]
  · rw [if_neg q]
    refine ⟨sI m 197 6 (z.1 + 1), fun o => ?_, ⟨rfl, z2, z3⟩, Fr_sI (Fr_refl _ m) (by unfold v3P; omega) _⟩
    simp (config := {decide := true}) only [f_X10_countFit_27, f_X10_countFit_17, f_X10_countFit_12, f_X10_countFit_0, F_X10_countFit, shT_197 h, z1, q, gT_sI, gI_sI, ne_eq, not_false_eq_true, and_self, and_true, true_and, and_false, false_and, true_or, or_true, false_or, or_false, not_true_eq_false, if_false, if_true]
theorem l_ffD {w : Nat} (hw : isW w) {n : Nat} (hn : n ≤ 12) {st : Nat → Int32} {day : Int32} {QC : Mm → Prop} (hQ : ∀ m, QC m → Sh m ∧ (∀ s, s < n → gI m (2 + 7 + 2 * s) 7 = st s) ∧ gI m 2 10 = day) (hQ' : ∀ m m', QC m → Fr v3P m m' → QC m') {FF : Nat → Nat → Prop} (HF : ∀ m, QC m → ∀ s d, s < n → d < 10 → ∃ m', (∀ o, F_X10_fits 197 2 w (nI s) (day + nI d) m o = (cI (FF s d), m', o)) ∧ QC m' ∧ Fr (dyC 128 w) m m') {s : Nat} (hs : s < n) (hs0 : ¬ st s = 0) (K : Nat → Nat → Nat → Int32 → Mm → Prop → Unit × Mm × Prop) : ∀ (k N d : Nat) (z : I3) (m : Mm), QC m → V3 m z → d + k = 10 → k < N → ∃ m', (∀ o, f_X10_findFits_37 K N 197 2 w (nI s) (nI d) m o = K 197 2 w (nI (s + 1)) m' o) ∧ QC m' ∧ V3 m' (gFD FF s k d z) := by
  intro k
  induction k with
  | zero =>
    intro N d z m hm hz hd hN
    obtain ⟨N, rfl⟩ : ∃ N1, N = N1 + 1 := ⟨N - 1, by omega⟩
    obtain rfl : d = 10 := by omega
    refine ⟨m, fun o => ?_, hm, hz⟩
    show f_X10_findFits_37b K (f_X10_findFits_37 K N) 197 2 w (nI s) (nI 10) m o = _
    unfold f_X10_findFits_37b f_X10_findFits_86
    rw [if_pos (by decide), nI_1]
  | succ k ih =>
    intro N d z m hm hz hd hN
    obtain ⟨N, rfl⟩ : ∃ N1, N = N1 + 1 := ⟨N - 1, by omega⟩
    obtain ⟨h, q1, q2⟩ := hQ m hm
    have hle : ¬ (10 : Int32) ≤ nI d := (show ¬ (10 : Int32) ≤ nI (d) from nI_ge (a := d) (b := 10) (by omega) (by omega))
    obtain ⟨u1, u2, -⟩ := md_stk h (p := 2) (.inl rfl) (show s < 12 by omega)
    have u1 : gR m 3 s = 2 + 7 + 2 * s := u1
    have n2 : ¬ 2 + 7 + 2 * s = 0 := by omega
    have hin : vp_in (nI s) 12 := vp_in_nI (by omega) (by omega)
    have g7 := q1 s hs
    obtain ⟨w0, -⟩ := w_sh h hw
    have n9 : ¬ w = 0 := by rcases hw with z | z <;> omega
    obtain ⟨m1, a1, a2, a3⟩ := HF m hm s d hs (by omega)
    obtain ⟨h1, -⟩ := hQ m1 a2
    have v1 : V3 m1 z := by
      obtain ⟨z1, z2, z3⟩ := hz
      refine ⟨(Fr_at a3 ?_).trans z1, (Fr_at a3 ?_).trans z2, (Fr_at a3 ?_).trans z3⟩ <;> unfold dyC lwP <;> rcases hw with z | z <;> omega
    have pre : ∀ o, f_X10_findFits_37b K (f_X10_findFits_37 K N) 197 2 w (nI s) (nI d) m o = f_X10_findFits_70 K (f_X10_findFits_37 K N) 197 2 w (nI s) (nI d) (cI (FF s d)) m1 o := fun o => by
      unfold f_X10_findFits_37b
      rw [if_neg hle]
      simp (config := {decide := true}) only [bnd, shT_2 h, shR_2_0 h, shT_3 h, shN_3 h, shT_197 h, hin, ix_nI (show s < 2 ^ 31 by omega), u1, u2, n2, w0, n9, g7, hs0, q2, a1, ne_eq, not_false_eq_true, and_self, and_true, true_and, and_false, false_and, true_or, or_true, false_or, or_false, not_true_eq_false, if_false, if_true]
    by_cases q : FF s d
    · obtain ⟨m2, b1, b2, b3⟩ := e_countFit h1 v1 (FF s d) q (nI s) (nI d)
      obtain ⟨m3, c1, c2, c3⟩ := ih N (d + 1) _ m2 (hQ' _ _ a2 b3) b2 (by omega) (by omega)
      refine ⟨m3, fun o => ?_, c2, c3⟩
      show f_X10_findFits_37b K (f_X10_findFits_37 K N) 197 2 w (nI s) (nI d) m o = _
      have ct : ¬ cI (FF s d) = 0 := fun z => absurd ((cI_t q).symm.trans z) (by decide)
      rw [pre]
      unfold f_X10_findFits_70
      rw [if_neg ct]
      simp (config := {decide := true}) only [f_X10_findFits_80, bnd, shT_197 h1, b1, nI_1, ne_eq, not_false_eq_true, and_self, and_true, true_and, and_false, false_and, true_or, or_true, false_or, or_false, not_true_eq_false, if_false, if_true]
      exact c1 o
    · obtain ⟨m3, c1, c2, c3⟩ := ih N (d + 1) z m1 a2 v1 (by omega) (by omega)
      refine ⟨m3, fun o => ?_, c2, ?_⟩
      · show f_X10_findFits_37b K (f_X10_findFits_37 K N) 197 2 w (nI s) (nI d) m o = _
        rw [pre]
        unfold f_X10_findFits_70
        rw [if_pos (cI_f q)]
        unfold f_X10_findFits_80
        rw [nI_1]
        exact c1 o
      · unfold gFD stp
        rw [if_neg q]
        exact c3
theorem l_ffS {w : Nat} (hw : isW w) {n : Nat} (hn : n ≤ 12) {st : Nat → Int32} {day : Int32} {QC : Mm → Prop} (hQ : ∀ m, QC m → Sh m ∧ (∀ s, s < n → gI m (2 + 7 + 2 * s) 7 = st s) ∧ gI m 2 10 = day) (hQ6 : ∀ m, QC m → gI m 2 6 = nI n) (hQ' : ∀ m m', QC m → Fr v3P m m' → QC m') {FF : Nat → Nat → Prop} (HF : ∀ m, QC m → ∀ s d, s < n → d < 10 → ∃ m', (∀ o, F_X10_fits 197 2 w (nI s) (day + nI d) m o = (cI (FF s d), m', o)) ∧ QC m' ∧ Fr (dyC 128 w) m m') {F0 : Prop} (H0 : ∀ m, QC m → ∃ m', (∀ o, F_X10_fits 197 2 w (-1) (-1) m o = (cI F0, m', o)) ∧ QC m' ∧ Fr (dyC 128 w) m m') : ∀ (k N s : Nat) (z : I3) (m : Mm), QC m → V3 m z → s + k = n → k < N → ∃ m', (∀ o, f_X10_findFits_26 N 197 2 w (nI s) m o = ((), m', o)) ∧ QC m' ∧ V3 m' (stp F0 12 12 (gFS st FF k s z)) := by
  intro k
  induction k with
  | zero =>
    intro N s z m hm hz hs hN
    obtain ⟨N, rfl⟩ : ∃ N1, N = N1 + 1 := ⟨N - 1, by omega⟩
    obtain rfl : s = n := by omega
    obtain ⟨h, q1, q2⟩ := hQ m hm
    have g6 := hQ6 m hm
    obtain ⟨w0, -⟩ := w_sh h hw
    have n9 : ¬ w = 0 := by rcases hw with z | z <;> omega
    obtain ⟨m1, a1, a2, a3⟩ := H0 m hm
    obtain ⟨h1, -⟩ := hQ m1 a2
    have v1 : V3 m1 z := by
      obtain ⟨z1, z2, z3⟩ := hz
      refine ⟨(Fr_at a3 ?_).trans z1, (Fr_at a3 ?_).trans z2, (Fr_at a3 ?_).trans z3⟩ <;> unfold dyC lwP <;> rcases hw with z | z <;> omega
    have pre : ∀ o, f_X10_findFits_26b (f_X10_findFits_26 N) 197 2 w (nI s) m o = f_X10_findFits_100 197 (cI F0) m1 o := fun o => by
      unfold f_X10_findFits_26b
      simp (config := {decide := true}) only [bnd, shT_2 h, shT_197 h, g6, Int32.le_refl, w0, n9, a1, ne_eq, not_false_eq_true, and_self, and_true, true_and, and_false, false_and, true_or, or_true, false_or, or_false, not_true_eq_false, if_false, if_true]
    by_cases q : F0
    · obtain ⟨m2, b1, b2, b3⟩ := e_countFit h1 v1 F0 q 12 12
      refine ⟨m2, fun o => ?_, hQ' _ _ a2 b3, b2⟩
      show f_X10_findFits_26b (f_X10_findFits_26 N) 197 2 w (nI s) m o = _
      have ct : ¬ cI F0 = 0 := fun z => absurd ((cI_t q).symm.trans z) (by decide)
      rw [pre]
      unfold f_X10_findFits_100
      rw [if_neg ct]
      simp (config := {decide := true}) only [f_X10_findFits_111, bnd, shT_197 h1, b1, ne_eq, not_false_eq_true, and_self, and_true, true_and, and_false, false_and, true_or, or_true, false_or, or_false, not_true_eq_false, if_false, if_true]
    · refine ⟨m1, fun o => ?_, a2, ?_⟩
      · show f_X10_findFits_26b (f_X10_findFits_26 N) 197 2 w (nI s) m o = _
        rw [pre]
        unfold f_X10_findFits_100 f_X10_findFits_111
        rw [if_pos (cI_f q)]
      · unfold gFS stp
        rw [if_neg q]
        exact v1
  | succ k ih =>
    intro N s z m hm hz hs hN
    obtain ⟨N, rfl⟩ : ∃ N1, N = N1 + 1 := ⟨N - 1, by omega⟩
    obtain ⟨h, q1, q2⟩ := hQ m hm
    have g6 := hQ6 m hm
    have hle : ¬ nI n ≤ nI s := nI_ge (by omega) (by omega)
    obtain ⟨u1, u2, -⟩ := md_stk h (p := 2) (.inl rfl) (show s < 12 by omega)
    have u1 : gR m 3 s = 2 + 7 + 2 * s := u1
    have n2 : ¬ 2 + 7 + 2 * s = 0 := by omega
    have hin : vp_in (nI s) 12 := vp_in_nI (by omega) (by omega)
    have g7 := q1 s (by omega)
    have pre : ∀ o, f_X10_findFits_26b (f_X10_findFits_26 N) 197 2 w (nI s) m o = f_X10_findFits_37 (f_X10_findFits_26 N) 1000 197 2 w (nI s) 0 m o := fun o => by
      unfold f_X10_findFits_26b
      simp (config := {decide := true}) only [shT_2 h, g6, hle, ne_eq, not_false_eq_true, and_self, and_true, true_and, and_false, false_and, true_or, or_true, false_or, or_false, not_true_eq_false, if_false, if_true]
    by_cases q : st s = 0
    · obtain ⟨m1, a1, a2, a3⟩ := ih N (s + 1) z m hm hz (by omega) (by omega)
      refine ⟨m1, fun o => ?_, a2, ?_⟩
      · show f_X10_findFits_26b (f_X10_findFits_26 N) 197 2 w (nI s) m o = _
        rw [pre]
        show f_X10_findFits_37b (f_X10_findFits_26 N) (f_X10_findFits_37 (f_X10_findFits_26 N) 999) 197 2 w (nI s) 0 m o = _
        unfold f_X10_findFits_37b f_X10_findFits_86
        rw [if_neg (by decide)]
        simp (config := {decide := true}) only [shT_2 h, shR_2_0 h, shT_3 h, shN_3 h, hin, ix_nI (show s < 2 ^ 31 by omega), u1, u2, n2, g7, q, nI_1, ne_eq, not_false_eq_true, and_self, and_true, true_and, and_false, false_and, true_or, or_true, false_or, or_false, not_true_eq_false, if_false, if_true]
        exact a1 o
      · unfold gFS
        rw [if_pos q]
        exact a3
    · obtain ⟨m1, a1, a2, a3⟩ := l_ffD hw hn hQ hQ' HF (show s < n by omega) q (f_X10_findFits_26 N) 10 1000 0 z m hm hz (by omega) (by omega)
      obtain ⟨m2, b1, b2, b3⟩ := ih N (s + 1) _ m1 a2 a3 (by omega) (by omega)
      rw [nI_0] at a1
      refine ⟨m2, fun o => ?_, b2, ?_⟩
      · show f_X10_findFits_26b (f_X10_findFits_26 N) 197 2 w (nI s) m o = _
        rw [pre, a1]
        exact b1 o
      · unfold gFS
        rw [if_neg q]
        exact b3

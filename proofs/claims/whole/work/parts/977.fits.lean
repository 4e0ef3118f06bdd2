/-! ===== whether the words fit ===== -/
/-- the words of day t and after, a meadow at the start of day t -/
def FT (E G : (Nat → Int32) → Int32) (n c : Nat) (B : Nat → Nat) (nw : Nat) : Nat → Nat → (Nat → Nat → Int32) → Prop
  | 0, _, _ => True
  | k + 1, t, b => (∀ j, j < nw → wDay B j = t → dayT E n c b (wCow B j) = wStk B j) ∧ FT E G n c B nw k (t + 1) (dayA E G n c b)
theorem FT_over (E G : (Nat → Int32) → Int32) (n c : Nat) {B : Nat → Nat} {nw : Nat} : ∀ (k t : Nat) (b : Nat → Nat → Int32), (∀ j, j < nw → wDay B j < t) → FT E G n c B nw k t b
  | 0, _, _, _ => trivial
  | k + 1, t, b, h => ⟨fun j hj e => by have := h j hj; omega, FT_over E G n c k (t + 1) _ (fun j hj => by have := h j hj; omega)⟩
theorem l_fitC {m : Mm} (h : Sh m) {B : Nat → Nat} (hB : ∀ i, B i < 256) {nw n c t w : Nat} (hn30 : nw ≤ 30) (hc : c ≤ 16) (ht : t < 10) (hok : ∀ j, j < nw → okW B n c j) (hw : wrdC B m nw) (h4 : gI m 197 4 = nI nw) {X : Nat → Int32} (hX : ∀ x, x < c → gI m 132 x = X x) (K : Nat → Nat → Int32 → Mm → Prop → Int32 × Mm × Prop) : ∀ (k N i : Nat) (o : Prop), i + k = nw → k < N → f_X10_fits_49 K N 197 w (nI t) (nI i) m o = @ite _ (∀ j, i ≤ j → j < nw → wDay B j = t → X (wCow B j) = wStk B j) (Classical.propDecidable _) (K 197 w (nI (t + 1)) m o) (0, m, o) := by
  intro k
  induction k with
  | zero =>
    intro N i o hi hN
    obtain ⟨N, rfl⟩ : ∃ N1, N = N1 + 1 := ⟨N - 1, by omega⟩
    obtain rfl : i = nw := by omega
    show f_X10_fits_49b K (f_X10_fits_49 K N) 197 w (nI t) (nI i) m o = _
    unfold f_X10_fits_49b
    rw [if_pos (show ∀ j, i ≤ j → j < i → wDay B j = t → X (wCow B j) = wStk B j from fun j h1 h2 => by omega)]
    simp (config := {decide := true}) only [shT_197 h, h4, Int32.le_refl, nI_1, ne_eq, not_false_eq_true, and_self, and_true, true_and, and_false, false_and, true_or, or_true, false_or, or_false, not_true_eq_false, if_false, if_true]
  | succ k ih =>
    intro N i o hi hN
    obtain ⟨N, rfl⟩ : ∃ N1, N = N1 + 1 := ⟨N - 1, by omega⟩
    obtain ⟨y1, y2, y3⟩ := hw i (by omega)
    obtain ⟨z1, z2, z3⟩ := hok i (by omega)
    have hle : ¬ nI nw ≤ nI i := nI_ge (by omega) (by omega)
    have hin : vp_in (nI i) 30 := vp_in_nI (by omega) (by omega)
    have hin2 : vp_in (nI (wCow B i)) 16 := vp_in_nI (by omega) (by omega)
    have ed : (nI (wDay B i) = nI t) = (wDay B i = t) := propext (nI_eq (by omega) (by omega))
    have step : ∀ o, (wDay B i = t → X (wCow B i) = wStk B i) → f_X10_fits_49 K N 197 w (nI t) (nI (i + 1)) m o = @ite _ (∀ j, i ≤ j → j < nw → wDay B j = t → X (wCow B j) = wStk B j) (Classical.propDecidable _) (K 197 w (nI (t + 1)) m o) (0, m, o) := fun o hi' => by
      rw [ih N (i + 1) o (by omega) (by omega)]
      congr 1
      refine propext ⟨fun z j h1 h2 => ?_, fun z j h1 h2 => z j (by omega) h2⟩
      by_cases q : j = i
      · rw [q]; exact hi'
      · exact z j (by omega) h2
    show f_X10_fits_49b K (f_X10_fits_49 K N) 197 w (nI t) (nI i) m o = _
    unfold f_X10_fits_49b f_X10_fits_97
    simp (config := {decide := true}) only [shT_197 h, shR_197_0 h, shR_197_1 h, shR_197_2 h, shR_197_3 h, shT_198 h, shN_198 h, shT_199 h, shN_199 h, shT_200 h, shN_200 h, shT_128 h, shR_128_3 h, shT_132 h, shN_132 h, h4, hle, hin, hin2, ix_nI (show i < 2 ^ 31 by omega), y1, y2, y3, ed, ix_nI (show wCow B i < 2 ^ 31 by omega), hX (wCow B i) z1, nI_1, ne_eq, not_false_eq_true, and_self, and_true, true_and, and_false, false_and, true_or, or_true, false_or, or_false, not_true_eq_false, if_false, if_true]
    by_cases q : wDay B i = t
    · rw [if_pos q]
      by_cases q2 : X (wCow B i) = wStk B i
      · rw [if_pos q2]
        exact step o (fun _ => q2)
      · rw [if_neg q2, if_neg (fun z => q2 (z i (Nat.le_refl i) (by omega) q))]
    · rw [if_neg q]
      exact step o (fun z => absurd z q)
noncomputable def cI (p : Prop) : Int32 := @ite _ p (Classical.propDecidable _) 1 0
theorem cI_t {p : Prop} (h : p) : cI p = 1 := if_pos h
theorem cI_f {p : Prop} (h : ¬ p) : cI p = 0 := if_neg h
theorem l_fitsC {C : Nat → Nat → Int32} {nl : Nat} {T : Nat → (Nat → Int32) → Option Bool} {V : Nat → (Nat → Int32) → Option Int32} (hL : LwF C nl T V) (hmk : ∀ j, j < 10 → C 8 j = 0 ∨ C 8 j = -1) (hdE : dep (C 8) (Ev C nl T V)) {w : Nat} {a0 : Nat → Nat → Int32} {n c nw Lm : Nat} {B : Nat → Nat} (hB : ∀ i, B i < 256) (hn30 : nw ≤ 30) (hok : ∀ j, j < nw → okW B n c j) (hLm : Lm < 256) (hmax : ∀ j, j < nw → wDay B j ≤ Lm) : ∀ (k N t : Nat) (a : Nat → Nat → Int32) (m : Mm), Sh m → lawAt m w C nl → Md m 128 a → WfA a n c → sta a0 a n c → KC (Ev C nl T V) (C 8) m 128 a0 n c → wrdC B m nw → gI m 197 4 = nI nw → gI m 197 5 = nI Lm → t + k = 10 → k < N → ∃ m', (∀ o, f_X10_fits_21 N 197 w (nI t) m o = (cI (FT (Ev C nl T V) (Gv C nl T V) n c B nw k t a), m', o)) ∧ KC (Ev C nl T V) (C 8) m' 128 a0 n c ∧ Fr (dyC 128 w) m m' := by
  intro k
  induction k with
  | zero =>
    intro N t a m h hA hM hW hS hK hw h4 h5 ht hN
    obtain ⟨N, rfl⟩ : ∃ N1, N = N1 + 1 := ⟨N - 1, by omega⟩
    obtain rfl : t = 10 := by omega
    refine ⟨m, fun o => ?_, hK, Fr_refl _ m⟩
    show f_X10_fits_21b (f_X10_fits_21 N) 197 w (nI 10) m o = _
    have z : (10 : Int32) ≤ nI 10 := by decide
    rw [cI_t (show FT (Ev C nl T V) (Gv C nl T V) n c B nw 0 10 a from trivial)]
    unfold f_X10_fits_21b f_X10_fits_109
    simp (config := {decide := true}) only [shT_197 h, z, ite_self, ne_eq, not_false_eq_true, and_self, and_true, true_and, and_false, false_and, true_or, or_true, false_or, or_false, not_true_eq_false, if_false, if_true]
  | succ k ih =>
    intro N t a m h hA hM hW hS hK hw h4 h5 ht hN
    obtain ⟨N, rfl⟩ : ∃ N1, N = N1 + 1 := ⟨N - 1, by omega⟩
    have hc := hW.1.1.2
    have e5 : (nI Lm < nI t) = (Lm < t) := propext (nI_ltI (by omega) (by omega))
    by_cases q : Lm < t
    · refine ⟨m, fun o => ?_, hK, Fr_refl _ m⟩
      show f_X10_fits_21b (f_X10_fits_21 N) 197 w (nI t) m o = _
      rw [cI_t (FT_over (Ev C nl T V) (Gv C nl T V) n c (k + 1) t a (fun j hj => by have := hmax j hj; omega))]
      unfold f_X10_fits_21b f_X10_fits_109
      simp (config := {decide := true}) only [shT_197 h, h5, e5, q, ne_eq, not_false_eq_true, and_self, and_true, true_and, and_false, false_and, true_or, or_true, false_or, or_false, not_true_eq_false, if_false, if_true]
    · obtain ⟨m1, a1, a2, a3, a4, a5⟩ := e_passDay hL hmk hdE (p := 128) (.inr (.inr rfl)) h hA hM hW hS hK
      have h1 := Fr_Sh a5 h
      obtain ⟨W1, S1⟩ := WfA_day (Ev C nl T V) (Gv_nI C nl T V) hW
      have hA1 : lawAt m1 w C nl := lawAt_Fr hA a5 (fun q x hq => by unfold dyC lwP; rcases hA.1 with z | z <;> omega)
      have g4 : gI m1 197 4 = nI nw := (Fr_at a5 (by unfold dyC lwP; rcases hA.1 with z | z <;> omega)).trans h4
      have g5 : gI m1 197 5 = nI Lm := (Fr_at a5 (by unfold dyC lwP; rcases hA.1 with z | z <;> omega)).trans h5
      have hw1 : wrdC B m1 nw := fun j hj => by
        obtain ⟨y1, y2, y3⟩ := hw j hj
        refine ⟨(Fr_at a5 ?_).trans y1, (Fr_at a5 ?_).trans y2, (Fr_at a5 ?_).trans y3⟩ <;> unfold dyC lwP <;> rcases hA.1 with z | z <;> omega
      have n9 : ¬ w = 0 := by rcases hA.1 with z | z <;> omega
      obtain ⟨w0, -⟩ := w_sh h hA.1
      have hle : ¬ (10 : Int32) ≤ nI t := (show ¬ (10 : Int32) ≤ nI (t) from nI_ge (a := t) (b := 10) (by omega) (by omega))
      have a4' : ∀ x, x < c → gI m1 132 x = dayT (Ev C nl T V) n c a x := fun x hx => a4 x hx
      have inn := fun K o => l_fitC h1 hB hn30 hc (show t < 10 by omega) (w := w) hok hw1 g4 a4' K nw 1000 0 o (by omega) (by omega)
      rw [nI_0] at inn
      have pre : ∀ o, f_X10_fits_21b (f_X10_fits_21 N) 197 w (nI t) m o = f_X10_fits_49 (f_X10_fits_21 N) 1000 197 w (nI t) 0 m1 o := fun o => by
        unfold f_X10_fits_21b
        simp (config := {decide := true}) only [f_X10_fits_45, bnd, shT_197 h, shR_197_3 h, shT_128 h, h5, e5, q, hle, w0, n9, a1, ne_eq, not_false_eq_true, and_self, and_true, true_and, and_false, false_and, true_or, or_true, false_or, or_false, not_true_eq_false, if_false, if_true]
      by_cases q2 : ∀ j, j < nw → wDay B j = t → dayT (Ev C nl T V) n c a (wCow B j) = wStk B j
      · obtain ⟨m2, b1, b2, b3⟩ := ih N (t + 1) _ m1 h1 hA1 a2 W1 (sta_trans hS S1) a3 hw1 g4 g5 (by omega) (by omega)
        refine ⟨m2, fun o => ?_, b2, Fr_trans a5 b3⟩
        show f_X10_fits_21b (f_X10_fits_21 N) 197 w (nI t) m o = _
        rw [pre, inn, if_pos (fun j _ hj => q2 j hj), b1]
        congr 2
        exact propext ⟨fun z => ⟨q2, z⟩, fun z => z.2⟩
      · refine ⟨m1, fun o => ?_, a3, a5⟩
        show f_X10_fits_21b (f_X10_fits_21 N) 197 w (nI t) m o = _
        rw [pre, inn, if_neg (fun z => q2 (fun j hj => z j (Nat.zero_le j) hj)), cI_f (fun z => q2 z.1)]
/-- the class: one place and day of the salt is tried -/
theorem e_fitsC {C : Nat → Nat → Int32} {nl : Nat} {T : Nat → (Nat → Int32) → Option Bool} {V : Nat → (Nat → Int32) → Option Int32} (hL : LwF C nl T V) (hmk : ∀ j, j < 10 → C 8 j = 0 ∨ C 8 j = -1) (hdE : dep (C 8) (Ev C nl T V)) {w : Nat} {a : Nat → Nat → Int32} {n c nw Lm : Nat} {B : Nat → Nat} (hB : ∀ i, B i < 256) (hn30 : nw ≤ 30) (hok : ∀ j, j < nw → okW B n c j) (hLm : Lm < 256) (hmax : ∀ j, j < nw → wDay B j ≤ Lm) {m : Mm} (h : Sh m) (hA : lawAt m w C nl) (hM : Md m 2 a) (hW : WfA a n c) (hK : KC (Ev C nl T V) (C 8) m 128 a n c) (hw : wrdC B m nw) (h4 : gI m 197 4 = nI nw) (h5 : gI m 197 5 = nI Lm) (x y : Int32) (hxy : ∀ b, WfA b n c → WfA (up (up b 0 8 x) 0 9 y) n c) : ∃ m' b, (∀ o, F_X10_fits 197 2 w x y m o = (cI (FT (Ev C nl T V) (Gv C nl T V) n c B nw 10 0 (up (up b 0 8 x) 0 9 y)), m', o)) ∧ ag (noK a) b n c ∧ KC (Ev C nl T V) (C 8) m' 128 a n c ∧ Fr (dyC 128 w) m m' := by
  have hww := hA.1
  obtain ⟨m2, b, b1, b2, b3, b4⟩ := e_startRun h hM hW
  have h2 := Fr_Sh b2 h
  have hWb := ag_Wf b4 (WfA_noK hW)
  have F2 : Fr (dyC 128 w) m m2 := Fr_mono b2 (fun q i hq => by unfold inM at hq; exact .inr ⟨by omega, by omega⟩)
  have F3 : Fr (dyC 128 w) m (sI (sI m2 128 8 x) 128 9 y) := Fr_sI (Fr_sI F2 (.inr ⟨by omega, by omega⟩) _) (.inr ⟨by omega, by omega⟩) _
  have h3 := Fr_Sh F3 h
  have b3' : Md (sI (sI m2 128 8 x) 128 9 y) 128 (up (up b 0 8 x) 0 9 y) := Md_up (Md_up b3 0 8 x) 0 9 y
  have hA3 : lawAt (sI (sI m2 128 8 x) 128 9 y) w C nl := lawAt_Fr hA F3 (fun q i hq => by unfold dyC lwP; rcases hww with z | z <;> omega)
  have K3 : KC (Ev C nl T V) (C 8) (sI (sI m2 128 8 x) 128 9 y) 128 a n c := KC_Fr (KC_Fr hK b2 (fun i => by unfold inM; omega)) (Fr_sI (Fr_sI (Fr_refl (fun q _ => q = 128) m2) rfl _) rfl _) (fun i => by omega)
  have fr : ∀ q i, 197 ≤ q → q ≤ 200 → gI (sI (sI m2 128 8 x) 128 9 y) q i = gI m q i := fun q i h1 h2 => Fr_at F3 (by unfold dyC lwP; rcases hww with z | z <;> omega)
  have S3 : sta a (up (up b 0 8 x) 0 9 y) n c := by
    have := sta_trans (sta_noK a n c) (ag_sta b4)
    have u : ∀ j i, j ≠ 0 → up (up b 0 8 x) 0 9 y j i = b j i := fun j i hj => by rw [up_ne _ _ (fun z => hj z.1), up_ne _ _ (fun z => hj z.1)]
    refine sta_trans this ⟨fun s hs => ⟨u _ _ (by omega), u _ _ (by omega), u _ _ (by omega), u _ _ (by omega)⟩, fun e he => ⟨fun f hf => u _ _ (by omega), fun j hj => u _ _ (by omega)⟩⟩
  obtain ⟨m4, c1, c2, c3⟩ := l_fitsC hL hmk hdE hB hn30 hok hLm hmax 10 1000 0 _ _ h3 hA3 b3' (hxy b hWb) S3 K3 (fun j hj => by rw [fr _ _ (by omega) (by omega), fr _ _ (by omega) (by omega), fr _ _ (by omega) (by omega)]; exact hw j hj) ((fr _ _ (by omega) (by omega)).trans h4) ((fr _ _ (by omega) (by omega)).trans h5) (by omega) (by omega)
  rw [nI_0] at c1
  refine ⟨m4, b, fun o => ?_, b4, c2, Fr_trans F3 c3⟩
  simp (config := {decide := true}) only [f_X10_fits_97, f_X10_fits_45, f_X10_fits_109, f_X10_fits_18, f_X10_fits_8, f_X10_fits_0, F_X10_fits, f_X5_putSalt_10, f_X5_putSalt_5, f_X5_putSalt_0, F_X5_putSalt, bnd, shT_197 h, shR_197_3 h, shT_128 h, shT_2 h, shT_197 h2, shR_197_3 h2, shT_128 h2, b1, gR_sI, gT_sI, gN_sI, shT_197 h3, shR_197_3 h3, c1, ne_eq, not_false_eq_true, and_self, and_true, true_and, and_false, false_and, true_or, or_true, false_or, or_false, not_true_eq_false, if_false, if_true]

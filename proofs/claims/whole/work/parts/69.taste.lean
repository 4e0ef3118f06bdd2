/-! ===== taste ===== -/
theorem e_taste {m : Mm} (h : Sh m) {c s j : Nat} (hc : c ≤ 16) (hs : s < c) (hj : j ≤ 4) (h7 : gI m 2 7 = nI c) {v : Int32} (hv : -9 ≤ v ∧ v ≤ 9) (o : Prop) : F_X11_taste 1 (nI s) (nI j) v m o = (1, sI m (34 + 2 * s) j v, o) := by
  obtain ⟨r1, r2, r3, r4, r5⟩ := md_cow h (p := 2) (.inl rfl) (show s < 16 by omega)
  have r1 : gR m 4 s = 33 + 2 * s := r1
  have r2 : gT m (33 + 2 * s) = 2 := r2
  have r3 : gR m (33 + 2 * s) 5 = 34 + 2 * s := r3
  have r4 : gT m (34 + 2 * s) = 20 := r4
  have r5 : gN m (34 + 2 * s) = 5 := r5
  have hin : vp_in (nI s) 16 := vp_in_nI (by omega) (by omega)
  have hi2 : vp_in (nI j) 5 := vp_in_nI (by omega) (by omega)
  have hrg : 0 ≤ nI s ∧ nI s ≤ nI c - 1 := (rng_n (by omega)).mpr ⟨s, hs, rfl⟩
  have hrj : 0 ≤ nI j ∧ nI j ≤ 4 := ⟨nI_pos' (by omega), nI_le (a := j) (b := 4) hj (by omega)⟩
  unfold F_X11_taste f_X11_taste_0 bnd f_X11_taste_5 bnd f_X11_taste_12 bnd f_X11_taste_23 f_X11_taste_43
  simp only [e_hasCow _ h, e_isColour, e_isWithin, h7, bI_0, ix, nI_clamp (show s < 2 ^ 31 by omega), nI_clamp (show j < 2 ^ 31 by omega), shR_1_0 h, shR_2_1 h, shT_1 h, shT_2 h, shT_4 h, shN_4 h, r1, r2, r3, r4, r5, hrg, hrj, hv, not_true, if_false, hin, hi2]
  simp
theorem e_tasteM {m : Mm} (h : Sh m) {c s j : Nat} (hc : c ≤ 16) (hs : s < c) (hj : j ≤ 4) (h7 : gI m 225 3 = nI c) {v : Int32} (hv : -9 ≤ v ∧ v ≤ 9) (o : Prop) : F_X12_taste 225 (nI s) (nI j) v m o = (1, sI m 238 (5 * s + j) v, o) := by
  have hl := e_lies v (-9) 9
  rw [show Int32.toInt64 (-9) = -9 by decide, show Int32.toInt64 9 = 9 by decide] at hl
  have hrg : 0 ≤ nI s ∧ nI s ≤ nI c - 1 := (rng_n (by omega)).mpr ⟨s, hs, rfl⟩
  have hrj : 0 ≤ nI j ∧ nI j ≤ 4 := ⟨nI_pos' (by omega), nI_le (a := j) (b := 4) hj (by omega)⟩
  have e1 : (5 : Int32) * nI s + nI j = nI (5 * s + j) := by
    rw [show (5 : Int32) = nI 5 from rfl, pk_mul, nI_add]
  have hi2 : vp_in (nI (5 * s + j)) 80 := vp_in_nI (by omega) (by omega)
  unfold F_X12_taste f_X12_taste_0 bnd f_X12_taste_5 bnd f_X12_taste_12 bnd f_X12_taste_26 f_X12_taste_42
  simp only [e_isCowM _ h, e_isColourM, hl, h7, bI_0, ix, e1, nI_clamp (show 5 * s + j < 2 ^ 31 by omega), shR_225_19 h, shT_225 h, shT_238 h, shN_238 h, hrg, hrj, hv, not_true, if_false, hi2]
  simp
theorem e_taste0 (a k v : Int32) {m : Mm} (h : Sh m) (q : ¬ ((0 ≤ a ∧ a ≤ gI m 2 7 - 1) ∧ (0 ≤ k ∧ k ≤ 4) ∧ (-9 ≤ v ∧ v ≤ 9))) (o : Prop) : F_X11_taste 1 a k v m o = (0, m, o) := by
  unfold F_X11_taste f_X11_taste_0 bnd f_X11_taste_5 bnd f_X11_taste_12 bnd f_X11_taste_23 f_X11_taste_26
  simp only [e_hasCow _ h, e_isColour, e_isWithin, bI_0, shT_1 h]
  by_cases q1 : 0 ≤ a ∧ a ≤ gI m 2 7 - 1
  · by_cases q2 : 0 ≤ k ∧ k ≤ 4
    · have q3 : ¬ (-9 ≤ v ∧ v ≤ 9) := fun z => q ⟨q1, q2, z⟩
      simp [q1, q2, q3]
    · simp [q1, q2]
  · simp [q1]
theorem e_tasteM0 (a k v : Int32) {m : Mm} (h : Sh m) (q : ¬ ((0 ≤ a ∧ a ≤ gI m 225 3 - 1) ∧ (0 ≤ k ∧ k ≤ 4) ∧ (-9 ≤ v ∧ v ≤ 9))) (o : Prop) : F_X12_taste 225 a k v m o = (0, m, o) := by
  have hl := e_lies v (-9) 9
  rw [show Int32.toInt64 (-9) = -9 by decide, show Int32.toInt64 9 = 9 by decide] at hl
  unfold F_X12_taste f_X12_taste_0 bnd f_X12_taste_5 bnd f_X12_taste_12 bnd f_X12_taste_26 f_X12_taste_29
  simp only [e_isCowM _ h, e_isColourM, hl, bI_0, shT_225 h]
  by_cases q1 : 0 ≤ a ∧ a ≤ gI m 225 3 - 1
  · by_cases q2 : 0 ≤ k ∧ k ≤ 4
    · have q3 : ¬ (-9 ≤ v ∧ v ≤ 9) := fun z => q ⟨q1, q2, z⟩
      simp [q1, q2, q3]
    · simp [q1, q2]
  · simp [q1]
theorem Rel_taste {m : Mm} (hR : Rel m) {n c s j : Nat} {v : Int32} (hss : RMs m 2 (cnum m) n c) (hb : RMb m 2 227 0 n c) (hs : s < c) (hj : j ≤ 4) (hv : -9 ≤ v.toInt ∧ v.toInt ≤ 9) : Rel (sI (sI m (34 + 2 * s) j v) 238 (5 * s + j) v) := by
  have hc : c ≤ 16 := hss.1.2
  have hn : n ≤ 12 := hss.1.1
  have hne : ∀ q i, q ≠ 238 → q ≠ 34 + 2 * s → gI (sI (sI m (34 + 2 * s) j v) 238 (5 * s + j) v) q i = gI m q i := fun q i h1 h2 => by
    simp only [gI_sI]
    rw [if_neg (fun z => h1 z.1), if_neg (fun z => h2 z.1)]
  refine Rel_now hR hR.1 ⟨rfl, rfl⟩ (fun q i hk => ?_) ⟨n, c, ?_, ?_⟩
  · unfold Kp at hk
    exact hne q i (by omega) (by omega)
  · unfold RMs cnum at hss ⊢
    simp only [hne 2 _ (by omega) (by omega), hne 225 _ (by omega) (by omega)]
    exact hss
  · obtain ⟨h1, h2, h3, h4, h5⟩ := hb
    refine ⟨fun t q => ?_, ?_, fun i q => ?_, fun k q => ?_, fun t q => ⟨fun i qi => ?_, fun i q1 q2 => ?_⟩⟩
    · have := h1 t q
      have e : ∀ i, gI (sI (sI m (34 + 2 * s) j v) 238 (5 * s + j) v) (2 + 7 + 2 * t) i = gI m (2 + 7 + 2 * t) i := fun i => hne _ _ (by omega) (by omega)
      simp only [WfS, EqS] at this ⊢
      simp only [e, hne 227 _ (by omega) (by omega), hne (227 + 1) _ (by omega) (by omega), hne (227 + 2) _ (by omega) (by omega), hne (227 + 3) _ (by omega) (by omega), hne (227 + 4) _ (by omega) (by omega), hne (227 + 5) _ (by omega) (by omega), hne (227 + 6) _ (by omega) (by omega)]
      exact this
    · rw [hsum_congr (g := fun s => gI m (2 + 7 + 2 * s) 3) (fun t q => hne _ _ (by omega) (by omega))]
      exact h2
    · obtain ⟨w1, e1⟩ := h3 i q
      have e : ∀ k, gI (sI (sI m (34 + 2 * s) j v) 238 (5 * s + j) v) (2 + 31 + 2 * i) k = gI m (2 + 31 + 2 * i) k := fun k => hne _ _ (by omega) (by omega)
      simp only [WfC, EqC] at w1 e1 ⊢
      simp only [e, hne (227 + 7) _ (by omega) (by omega), hne (227 + 8) _ (by omega) (by omega), hne (227 + 9) _ (by omega) (by omega), hne (227 + 10) _ (by omega) (by omega)]
      obtain ⟨a1, a2, a3, a4, a5, a6⟩ := w1
      obtain ⟨b1, b2, b3, b4, b5⟩ := e1
      have hval : ∀ k, k < 5 → gI (sI (sI m (34 + 2 * s) j v) 238 (5 * s + j) v) (2 + 31 + 2 * i + 1) k = if i = s ∧ k = j then v else gI m (2 + 31 + 2 * i + 1) k := fun k hk => by
        simp only [gI_sI]
        rw [if_neg (by omega)]
        by_cases z : i = s ∧ k = j
        · obtain ⟨z1, z2⟩ := z
          rw [if_pos (show i = s ∧ k = j from ⟨z1, z2⟩), if_pos (show 2 + 31 + 2 * i + 1 = 34 + 2 * s ∧ k = j from ⟨by omega, z2⟩)]
        · rw [if_neg z, if_neg (show ¬ (2 + 31 + 2 * i + 1 = 34 + 2 * s ∧ k = j) by omega)]
      have hval2 : ∀ k, k < 5 → gI (sI (sI m (34 + 2 * s) j v) 238 (5 * s + j) v) (227 + 11) (80 * 0 + 5 * i + k) = if i = s ∧ k = j then v else gI m (227 + 11) (80 * 0 + 5 * i + k) := fun k hk => by
        rw [gI_sI, gI_sI]
        by_cases z : i = s ∧ k = j
        · obtain ⟨z1, z2⟩ := z
          rw [if_pos (show i = s ∧ k = j from ⟨z1, z2⟩), if_pos (show 227 + 11 = 238 ∧ 80 * 0 + 5 * i + k = 5 * s + j from ⟨rfl, by omega⟩)]
        · rw [if_neg z, if_neg (show ¬ (227 + 11 = 238 ∧ 80 * 0 + 5 * i + k = 5 * s + j) by omega), if_neg (show ¬ (227 + 11 = 34 + 2 * s ∧ 80 * 0 + 5 * i + k = j) by omega)]
      refine ⟨⟨a1, a2, a3, a4, a5, fun k hk => ?_⟩, b1, b2, b3, b4, fun k hk => ?_⟩
      · rw [hval k hk]
        by_cases z : i = s ∧ k = j
        · rw [if_pos z]; exact hv
        · rw [if_neg z]; exact a6 k hk
      · rw [hval k hk, hval2 k hk, b5 k hk]
    · rw [hne (227 + 12) _ (by omega) (by omega), hne (2 + 3) _ (by omega) (by omega)]
      exact h4 k q
    · rw [hne (227 + 13) _ (by omega) (by omega), hne (2 + 8 + 2 * t) _ (by omega) (by omega)]
      exact (h5 t q).1 i qi
    · rw [hne (2 + 8 + 2 * t) _ (by omega) (by omega)]
      exact (h5 t q).2 i q1 q2
theorem p_taste : Pr_taste Rel := fun a k v m o hR ho => by
  obtain ⟨n, c, hss, hb⟩ := hR.2.2.1
  have h7 : gI m 2 7 = nI c := hss.2.2.1.1
  have h3 : gI m 225 3 = nI c := hss.2.2.1.2
  by_cases q : (0 ≤ a ∧ a ≤ gI m 2 7 - 1) ∧ (0 ≤ k ∧ k ≤ 4) ∧ (-9 ≤ v ∧ v ≤ 9)
  · obtain ⟨q1, q2, q3⟩ := q
    rw [h7] at q1
    obtain ⟨s, hs, rfl⟩ := (rng_n (by have := hss.1.2; omega)).mp q1
    obtain ⟨j, hj, rfl⟩ := rng_in (N := 4) (by decide) q2
    have hv : -9 ≤ v.toInt ∧ v.toInt ≤ 9 := by
      have e1 : (-9 : Int32).toInt = -9 := by decide
      have e2 : (9 : Int32).toInt = 9 := by decide
      rw [Int32.le_iff_toInt_le, Int32.le_iff_toInt_le, e1, e2] at q3
      exact q3
    rw [e_taste hR.1 hss.1.2 hs hj h7 q3]
    refine ⟨ho, sh_225 hR.1, fun o' ho' => ?_⟩
    have h3' : gI (sI m (34 + 2 * s) j v) 225 3 = nI c := by
      rw [gI_sI, if_neg (by have := hss.1.2; omega)]
      exact h3
    show (F_X12_taste 225 (nI s) (nI j) v (sI m (34 + 2 * s) j v) o').1 = 1 ∧ (F_X12_taste 225 (nI s) (nI j) v (sI m (34 + 2 * s) j v) o').2.2 ∧ Rel (F_X12_taste 225 (nI s) (nI j) v (sI m (34 + 2 * s) j v) o').2.1
    rw [e_tasteM (Sh_sI hR.1 _ _ _) hss.1.2 hs hj h3' q3]
    exact ⟨rfl, ho', Rel_taste hR hss hb hs hj hv⟩
  · have q' : ¬ ((0 ≤ a ∧ a ≤ gI m 225 3 - 1) ∧ (0 ≤ k ∧ k ≤ 4) ∧ (-9 ≤ v ∧ v ≤ 9)) := by rw [h3, ← h7]; exact q
    rw [e_taste0 a k v hR.1 q]
    refine ⟨ho, sh_225 hR.1, fun o' ho' => ?_⟩
    show (F_X12_taste 225 a k v m o').1 = 0 ∧ (F_X12_taste 225 a k v m o').2.2 ∧ Rel (F_X12_taste 225 a k v m o').2.1
    rw [e_tasteM0 a k v hR.1 q']
    exact ⟨rfl, ho', hR⟩

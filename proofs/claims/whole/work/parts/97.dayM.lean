/-! ===== a day of the other side, to its end; would, chooses, days ===== -/
theorem MM_tick {m : Mm} {a : Nat → Nat → Int32} {n c : Nat} {d : Nat → Int32} (h : MM m a n c d) (v : Int32) : MM (sI m 225 4 v) (up a 0 10 v) n c d := by
  obtain ⟨⟨h1, h2, h3, h4⟩, h5⟩ := h
  have er : rws (sI m 225 4 v) 227 = rws m 227 := by
    funext f i
    unfold rws
    rw [gI_sI, if_neg (by omega)]
  have neS : ∀ x, up a 0 10 v (7 + 2 * x) = a (7 + 2 * x) := fun x => funext (fun i => up_ne _ _ (by omega))
  have neE : ∀ x, up a 0 10 v (8 + 2 * x) = a (8 + 2 * x) := fun x => funext (fun i => up_ne _ _ (by omega))
  have neC : ∀ x, up a 0 10 v (31 + 2 * x) = a (31 + 2 * x) := fun x => funext (fun i => up_ne _ _ (by omega))
  have neT : ∀ x, up a 0 10 v (32 + 2 * x) = a (32 + 2 * x) := fun x => funext (fun i => up_ne _ _ (by omega))
  have ne3 : up a 0 10 v 3 = a 3 := funext (fun i => up_ne _ _ (by omega))
  have v0 : ∀ i, i ≠ 10 → up a 0 10 v 0 i = a 0 i := fun i hi => up_ne _ _ (by omega)
  refine ⟨?_, ?_⟩
  · rw [er]
    refine ⟨fun s hs => by rw [neS]; exact h1 s hs, fun i hi => by rw [neC, neT]; exact h2 i hi, fun j hj => by rw [ne3]; exact h3 j hj, fun s hs i hi => by rw [neE]; exact h4 s hs i hi⟩
  · obtain ⟨n0, n1, n2, n3, n4, n5⟩ := h5
    unfold eN
    rw [v0 6 (by omega), v0 7 (by omega), v0 8 (by omega), v0 9 (by omega), v0 11 (by omega), up_same]
    exact ⟨n0, n1, rfl, n3, n4, n5⟩
theorem l_dayM2 {C D : Nat → Nat → Int32} {nl : Nat} {T : Nat → (Nat → Int32) → Option Bool} {V : Nat → (Nat → Int32) → Option Int32} (hL : LwM (C 3) D nl T V) {n c : Nat} {d : Nat → Int32} : ∀ (k N s : Nat) (z : (Nat → Nat → Int32) × Int32) (m : Mm), Sh m → lawM m D nl → MM m z.1 n c d → WfA z.1 n c → gI m 225 50 = z.2 → s + k = n → k < N → ∃ m', (∀ o, f_X12_dayOne_137 N 225 (nI s) m o = ((), m', o)) ∧ MM m' (up (dS (Gv C nl T V) z s k).1 0 10 ((dS (Gv C nl T V) z s k).1 0 10 + 1)) n c d ∧ gI m' 225 50 = (dS (Gv C nl T V) z s k).2 ∧ Fr (fun q x => lmP q x ∨ (229 ≤ q ∧ q ≤ 233) ∨ (q = 225 ∧ (x = 4 ∨ x = 50))) m m' := by
  intro k
  induction k with
  | zero =>
    intro N s z m h hA hE hW h50 hs hN
    obtain ⟨N, rfl⟩ : ∃ N1, N = N1 + 1 := ⟨N - 1, by omega⟩
    have hn := hW.1.1.1
    have h2 : gI m 225 2 = nI n := hE.2.1.trans hW.1.2.1
    have h4 : gI m 225 4 = z.1 0 10 := hE.2.2.2.1
    have hle : nI n ≤ nI s := nI_le (by omega) (by omega)
    refine ⟨sI m 225 4 (z.1 0 10 + 1), fun o => ?_, MM_tick hE _, ?_, Fr_sI (Fr_refl _ m) (by omega) _⟩
    · show f_X12_dayOne_137b (f_X12_dayOne_137 N) 225 (nI s) m o = _
      simp (config := {decide := true}) only [f_X12_dayOne_137b, f_X12_dayOne_239, h2, hle, h4, shT_225 h, ne_eq, not_false_eq_true, and_self, and_true, true_and, and_false, false_and, true_or, or_true, false_or, or_false, not_true_eq_false, if_false, if_true]
    · rw [gI_sI, if_neg (by omega)]; exact h50
  | succ k ih =>
    intro N s z m h hA hE hW h50 hs hN
    obtain ⟨N, rfl⟩ : ∃ N1, N = N1 + 1 := ⟨N - 1, by omega⟩
    have hn := hW.1.1.1
    have h2 : gI m 225 2 = nI n := hE.2.1.trans hW.1.2.1
    have hle : ¬ nI n ≤ nI s := nI_ge (by omega) (by omega)
    have hin : vp_in (nI s) 12 := vp_in_nI (by omega) (by omega)
    obtain ⟨-, -, -, -, -, s5, s6⟩ := MM_at hE (show s < n by omega)
    rw [dS]
    unfold dS1
    by_cases q : z.1 (7 + 2 * s) 7 = 0
    · rw [if_pos q]
      obtain ⟨m2, b1, b2, b3, b4⟩ := ih N (s + 1) z m h hA hE hW h50 (by omega) (by omega)
      refine ⟨m2, fun o => ?_, b2, b3, b4⟩
      show f_X12_dayOne_137b (f_X12_dayOne_137 N) 225 (nI s) m o = _
      simp (config := {decide := true}) only [f_X12_dayOne_137b, f_X12_dayOne_223, h2, hle, shT_225 h, shR_225_14 h, shT_233 h, shN_233 h, hin, ix_nI (show s < 2 ^ 31 by omega), s6, q, nI_1, ne_eq, not_false_eq_true, and_self, and_true, true_and, and_false, false_and, true_or, or_true, false_or, or_false, not_true_eq_false, if_false, if_true]
      exact b1 o
    · rw [if_neg q]
      have F1 : Fr (fun q x => lmP q x ∨ (229 ≤ q ∧ q ≤ 233) ∨ (q = 225 ∧ (x = 4 ∨ x = 50))) m (sI (sI m 225 45 (nI s)) 225 46 (-1)) := by
        refine Fr_sI (Fr_sI (Fr_refl _ m) ?_ _) ?_ _ <;> unfold lmP <;> omega
      have h1 := Fr_Sh F1 h
      have hE1 : MM (sI (sI m 225 45 (nI s)) 225 46 (-1)) z.1 n c d := MM_frame hE (fun q x hq => by rw [gI_sI, if_neg (by omega), gI_sI, if_neg (by omega)])
      have hA1 := lawM_Fr hA F1 (fun q x hq => by unfold lmP; omega)
      obtain ⟨m1, a1, a2⟩ := e_tellsG hL h1 hA1 hE1 hW (show s < n by omega) rfl rfl
      have h3 := Fr_Sh a2 h1
      have F2 : Fr (fun q x => lmP q x ∨ (229 ≤ q ∧ q ≤ 233) ∨ (q = 225 ∧ (x = 4 ∨ x = 50))) m m1 := Fr_trans F1 (Fr_mono a2 (fun q x hq => by unfold wkP at hq; unfold lmP; omega))
      have hE2 : MM m1 z.1 n c d := MM_frame hE1 (fun q x hq => Fr_at a2 (by unfold wkP; omega))
      have g1 := MM_S hE2 (show s < n by omega) hn (f := 5) ⟨by omega, by omega⟩ (z.1 (7 + 2 * s) 6 + Gv C nl T V (letG z.1 s))
      have F3 : Fr (fun q x => lmP q x ∨ (229 ≤ q ∧ q ≤ 233) ∨ (q = 225 ∧ (x = 4 ∨ x = 50))) m (sI m1 232 s (z.1 (7 + 2 * s) 6 + Gv C nl T V (letG z.1 s))) := Fr_sI F2 (by omega) _
      have h50' : gI m1 225 50 = z.2 := by
        rw [Fr_at a2 (by unfold wkP; omega), gI_sI, if_neg (by omega), gI_sI, if_neg (by omega)]
        exact h50
      obtain ⟨W1, -⟩ := WfA_heat (Gv_nI C nl T V) hW (show s < n by omega) q
      have s5' : gI (sI (sI m 225 45 (nI s)) 225 46 (-1)) 232 s = z.1 (7 + 2 * s) 6 := s5
      unfold heatG at W1 ⊢
      by_cases q5 : 500 ≤ z.1 (7 + 2 * s) 6 + Gv C nl T V (letG z.1 s)
      · simp only [if_pos q5] at W1 ⊢
        have g2 := MM_S g1 (show s < n by omega) hn (f := 6) ⟨by omega, by omega⟩ 0
        have g3 := MM_S g2 (show s < n by omega) hn (f := 2) ⟨by omega, by omega⟩ 0
        have g4 : MM (sI (sI (sI (sI m1 232 s (z.1 (7 + 2 * s) 6 + Gv C nl T V (letG z.1 s))) 233 s 0) 229 s 0) 225 50 (z.2 + 1)) (up (up (up z.1 (7 + 2 * s) 6 (z.1 (7 + 2 * s) 6 + Gv C nl T V (letG z.1 s))) (7 + 2 * s) 7 0) (7 + 2 * s) 3 0) n c d := MM_frame g3 (fun q x hq => by rw [gI_sI, if_neg (by omega)])
        have F4 : Fr (fun q x => lmP q x ∨ (229 ≤ q ∧ q ≤ 233) ∨ (q = 225 ∧ (x = 4 ∨ x = 50))) m (sI (sI (sI (sI m1 232 s (z.1 (7 + 2 * s) 6 + Gv C nl T V (letG z.1 s))) 233 s 0) 229 s 0) 225 50 (z.2 + 1)) := by
          refine Fr_sI (Fr_sI (Fr_sI F3 ?_ _) ?_ _) ?_ _ <;> omega
        obtain ⟨m2, b1, b2, b3, b4⟩ := ih N (s + 1) (up (up (up z.1 (7 + 2 * s) 6 (z.1 (7 + 2 * s) 6 + Gv C nl T V (letG z.1 s))) (7 + 2 * s) 7 0) (7 + 2 * s) 3 0, z.2 + 1) _ (Fr_Sh F4 h) (lawM_Fr hA F4 (fun q x hq => by unfold lmP; omega)) g4 W1 (by rw [gI_sI, if_pos ⟨rfl, rfl⟩]) (by omega) (by omega)
        refine ⟨m2, fun o => ?_, b2, b3, Fr_trans F4 b4⟩
        show f_X12_dayOne_137b (f_X12_dayOne_137 N) 225 (nI s) m o = _
        have e01 : (0 : Int32) &&& 1 = 0 := by decide
        simp (config := {decide := true}) only [f_X12_dayOne_137b, f_X12_dayOne_162, f_X12_dayOne_167, f_X12_dayOne_182, f_X12_dayOne_184, f_X12_dayOne_206, f_X12_dayOne_213, f_X12_dayOne_223, bnd, h2, hle, shT_225 h, shR_225_13 h, shR_225_14 h, shT_232 h, shN_232 h, shT_233 h, shN_233 h, shT_225 h1, shR_225_13 h1, shT_232 h1, shN_232 h1, shT_225 h3, shR_225_10 h3, shR_225_13 h3, shR_225_14 h3, shT_229 h3, shN_229 h3, shT_232 h3, shN_232 h3, shT_233 h3, shN_233 h3, gT_sI, gN_sI, gR_sI, hin, ix_nI (show s < 2 ^ 31 by omega), s6, s5', q, a1, gI_sI m1, gI_sI (sI m1 232 s (z.1 (7 + 2 * s) 6 + Gv C nl T V (letG z.1 s))), gI_sI (sI (sI m1 232 s (z.1 (7 + 2 * s) 6 + Gv C nl T V (letG z.1 s))) 233 s 0), h50', e01, q5, nI_1, ne_eq, not_false_eq_true, and_self, and_true, true_and, and_false, false_and, true_or, or_true, false_or, or_false, not_true_eq_false, if_false, if_true]
        exact b1 o
      · simp only [if_neg q5] at W1 ⊢
        obtain ⟨m2, b1, b2, b3, b4⟩ := ih N (s + 1) (up z.1 (7 + 2 * s) 6 (z.1 (7 + 2 * s) 6 + Gv C nl T V (letG z.1 s)), z.2) _ (Fr_Sh F3 h) (lawM_Fr hA F3 (fun q x hq => by unfold lmP; omega)) g1 W1 (by rw [gI_sI, if_neg (by omega)]; exact h50') (by omega) (by omega)
        refine ⟨m2, fun o => ?_, b2, b3, Fr_trans F3 b4⟩
        show f_X12_dayOne_137b (f_X12_dayOne_137 N) 225 (nI s) m o = _
        simp (config := {decide := true}) only [f_X12_dayOne_137b, f_X12_dayOne_162, f_X12_dayOne_167, f_X12_dayOne_182, f_X12_dayOne_184, f_X12_dayOne_223, bnd, h2, hle, shT_225 h, shR_225_13 h, shR_225_14 h, shT_232 h, shN_232 h, shT_233 h, shN_233 h, shT_225 h1, shR_225_13 h1, shT_232 h1, shN_232 h1, shT_225 h3, shR_225_10 h3, shR_225_13 h3, shR_225_14 h3, shT_229 h3, shN_229 h3, shT_232 h3, shN_232 h3, shT_233 h3, shN_233 h3, gT_sI, gN_sI, gR_sI, hin, ix_nI (show s < 2 ^ 31 by omega), s6, s5', q, a1, gI_sI m1, h50', q5, nI_1, ne_eq, not_false_eq_true, and_self, and_true, true_and, and_false, false_and, true_or, or_true, false_or, or_false, not_true_eq_false, if_false, if_true]
        exact b1 o
/-- hay and burnt ones are counted on -/
theorem dC_add (E : (Nat → Int32) → Int32) (n : Nat) : ∀ (k e : Nat) (a : Nat → Nat → Int32) (h : Int32) (t t' : Nat → Int32), (dC E n (a, h, t) e k).1 = (dC E n (a, 0, t') e k).1 ∧ (dC E n (a, h, t) e k).2.1 = h + (dC E n (a, 0, t') e k).2.1
  | 0, _, _, h, _, _ => ⟨rfl, (Int32.add_zero h).symm⟩
  | k + 1, e, a, h, t, t' => by
    unfold dC dC1
    by_cases q : chF E a e (-1) 0 0 n = -1
    · simp only [if_pos q]
      exact dC_add E n k (e + 1) a h _ _
    · simp only [if_neg q]
      obtain ⟨x1, x2⟩ := dC_add E n k (e + 1) (eatG a (ix (chF E a e (-1) 0 0 n)) e) (h + bite (a (7 + 2 * ix (chF E a e (-1) 0 0 n)) 3) (a (31 + 2 * e) 3)) (fun x => if x = e then chF E a e (-1) 0 0 n else t x) (fun x => if x = e then chF E a e (-1) 0 0 n else t' x)
      obtain ⟨y1, y2⟩ := dC_add E n k (e + 1) (eatG a (ix (chF E a e (-1) 0 0 n)) e) (0 + bite (a (7 + 2 * ix (chF E a e (-1) 0 0 n)) 3) (a (31 + 2 * e) 3)) (fun x => if x = e then chF E a e (-1) 0 0 n else t' x) (fun x => if x = e then chF E a e (-1) 0 0 n else t' x)
      refine ⟨x1.trans y1.symm, ?_⟩
      rw [x2, y2, Int32.zero_add, Int32.add_assoc]
theorem dC_T (E : (Nat → Int32) → Int32) (n : Nat) : ∀ (k e : Nat) (a : Nat → Nat → Int32) (h h' : Int32) (t : Nat → Int32), (dC E n (a, h, t) e k).2.2 = (dC E n (a, h', t) e k).2.2
  | 0, _, _, _, _, _ => rfl
  | k + 1, e, a, h, h', t => by
    unfold dC dC1
    by_cases q : chF E a e (-1) 0 0 n = -1
    · simp only [if_pos q]
      exact dC_T E n k (e + 1) a h h' _
    · simp only [if_neg q]
      exact dC_T E n k (e + 1) _ _ _ _
theorem dS_add (G : (Nat → Int32) → Int32) : ∀ (k s : Nat) (a : Nat → Nat → Int32) (v : Int32), (dS G (a, v) s k).1 = (dS G (a, 0) s k).1 ∧ (dS G (a, v) s k).2 = v + (dS G (a, 0) s k).2
  | 0, _, _, v => ⟨rfl, (Int32.add_zero v).symm⟩
  | k + 1, s, a, v => by
    unfold dS dS1
    by_cases q : a (7 + 2 * s) 7 = 0
    · simp only [if_pos q]
      exact dS_add G k (s + 1) a v
    · simp only [if_neg q]
      by_cases q2 : 500 ≤ a (7 + 2 * s) 6 + G (letG a s)
      · simp only [if_pos q2]
        obtain ⟨x1, x2⟩ := dS_add G k (s + 1) (heatG G a s) (v + 1)
        obtain ⟨y1, y2⟩ := dS_add G k (s + 1) (heatG G a s) (0 + 1)
        exact ⟨x1.trans y1.symm, by rw [x2, y2, Int32.zero_add, Int32.add_assoc]⟩
      · simp only [if_neg q2]
        exact dS_add G k (s + 1) _ v
theorem e_dayOne {C D : Nat → Nat → Int32} {nl : Nat} {T : Nat → (Nat → Int32) → Option Bool} {V : Nat → (Nat → Int32) → Option Int32} (hL : LwM (C 3) D nl T V) {a : Nat → Nat → Int32} {n c : Nat} {d : Nat → Int32} {m : Mm} (h : Sh m) (hA : lawM m D nl) (hE : MM m a n c d) (hW : WfA a n c) : ∃ m', (∀ o, F_X12_dayOne 225 m o = ((), m', o)) ∧ MM m' (dayA (Ev C nl T V) (Gv C nl T V) n c a) n c d ∧ gI m' 225 51 = gI m 225 51 + dayH (Ev C nl T V) n c a ∧ gI m' 225 50 = gI m 225 50 + dayB (Ev C nl T V) (Gv C nl T V) n c a ∧ (∀ x, x < c → gI m' 256 x = dayT (Ev C nl T V) n c a x) ∧ Fr dyM m m' := by
  have hn := hW.1.1.1
  have hc := hW.1.1.2
  obtain ⟨m1, a1, a2, a3, a4, a5, a6⟩ := l_dayM1 (V := V) hL _ (fun _ _ => rfl) c 1000 0 (a, gI m 225 51, d0) m h hA hE hW rfl (fun x hx => by omega) (by omega) (by omega)
  obtain ⟨x1, x2⟩ := dC_add (Ev C nl T V) n c 0 a (gI m 225 51) d0 d0
  rw [x1] at a2
  rw [x2] at a3
  have h1 := Fr_Sh a6 h
  obtain ⟨m2, b1, b2, b3, b4⟩ := l_dayM2 (V := V) hL n 1000 0 ((dC (Ev C nl T V) n (a, 0, d0) 0 c).1, gI m1 225 50) m1 h1 (lawM_Fr hA a6 (fun q x hq => by unfold dyM lmP; omega)) a2 (WfA_dC _ c 0 (a, 0, d0) hW (by omega)).1 rfl (by omega) (by omega)
  obtain ⟨y1, y2⟩ := dS_add (Gv C nl T V) n 0 (dC (Ev C nl T V) n (a, 0, d0) 0 c).1 (gI m1 225 50)
  rw [y1] at b2
  rw [y2, a5] at b3
  rw [nI_0] at a1 b1
  refine ⟨m2, fun o => ?_, b2, (Fr_at b4 (by unfold lmP; omega)).trans a3, b3, fun x hx => ?_, Fr_trans a6 (Fr_mono b4 (fun q x hq => by unfold dyM; unfold lmP at *; omega))⟩
  · show f_X12_dayOne_2 1000 225 0 m o = _
    rw [a1 o, b1]
  · rw [Fr_at b4 (by unfold lmP; omega), a4 x hx]
    exact congrFun (dC_T _ _ _ _ _ _ _ _) x
